set_option maxRecDepth 4000 in
theorem e_Md_ask {l : Launch} {d : Nat} {sh : aw_SH} {S : aw_S} {P : Int32 → aw_S → Prop} {a : Nat} {p0 : Int32} {p1 : Int32} {p2 : Int32} (sa : sh[a]? = some (0, 11)) (h : Sp l m_Md_wrongSeen d 0 0 [.ref a, .int p0, .int p1, .int p2] sh S (gI sh (fun x2 S1 => ((x2 ≤ 0 → Sp l m_Md_laysRowsSeen d 0 0 [.ref a, .int p0, .int p1, .int p2] sh S1 (gV sh (fun S4 => AW l m_Md_ask (d + 1) 0 0 (gI sh P) 0 0 40 [.ref a, .null, .null, .null, .null, .int (-1), .int (S4.1 a 39), .int 0] [] sh S4))) ∧ (¬ x2 ≤ 0 → Sp l m_Md_refuse d 0 0 [.ref a, .int x2] sh S1 (gI sh (fun x6 S5 => P x6 S5))))))) : Sp l m_Md_ask (d + 1) 0 0 [.ref a, .int p0, .int p1, .int p2] sh S (gI sh P) := by
  refine Sp.of k_Md_ask (ls := [.ref a, .int p0, .int p1, .int p2, .null, .null, .null, .null]) rfl (Nat.le_of_ble_eq_true rfl) ?_
  refine r_aload_n (pc := 0) d_Md_ask_0 (x := a) rfl ?_
  refine r_iload_n (pc := 1) d_Md_ask_1 (x := p0) rfl ?_
  refine r_iload_n (pc := 2) d_Md_ask_2 (x := p1) rfl ?_
  refine r_iload_n (pc := 3) d_Md_ask_3 (x := p2) rfl ?_
  refine r_callV (pc := 4) (k := a) (As := [.int p0, .int p1, .int p2]) (rest := []) (mc' := 0) (ms' := 0) lk_Md_457 in_Md_wrongSeen se_Md_wrongSeen sa rfl d_Md_ask_4 k_Md_wrongSeen rfl rfl (Nat.le_of_ble_eq_true rfl) (by decide) (by decide) (Sp.mono h ?_)
  rintro rS1 shS1 S1 ⟨qS1, x2, uS1, h⟩
  subst uS1
  rw [qS1]
  refine r_istore (pc := 7) (hd := d_Md_ask_7) (hi := by decide) (ls2 := [.ref a, .int p0, .int p1, .int p2, .int x2, .null, .null, .null]) (h2 := rfl) ?_
  refine r_iload (pc := 9) d_Md_ask_9 (x := x2) rfl ?_
  refine r_if_le (pc := 11) d_Md_ask_11 (tgt := 21) (by decide) (fun c3 => ?_) (fun c3 => ?_)
  · replace h := h.1 c3
    refine r_aload_n (pc := 21) d_Md_ask_21 (x := a) rfl ?_
    refine r_iload_n (pc := 22) d_Md_ask_22 (x := p0) rfl ?_
    refine r_iload_n (pc := 23) d_Md_ask_23 (x := p1) rfl ?_
    refine r_iload_n (pc := 24) d_Md_ask_24 (x := p2) rfl ?_
    refine r_callV (pc := 25) (k := a) (As := [.int p0, .int p1, .int p2]) (rest := []) (mc' := 0) (ms' := 0) lk_Md_460 in_Md_laysRowsSeen se_Md_laysRowsSeen sa rfl d_Md_ask_25 k_Md_laysRowsSeen rfl rfl (Nat.le_of_ble_eq_true rfl) (by decide) (by decide) (Sp.mono h ?_)
    rintro rS4 shS4 S4 ⟨qS4, uS4, h⟩
    subst uS4
    rw [qS4]
    refine r_iconst (pc := 28) d_Md_ask_28 (v := (-1)) (by decide) ?_
    refine r_istore (pc := 29) (hd := d_Md_ask_29) (hi := by decide) (ls2 := [.ref a, .int p0, .int p1, .int p2, .int x2, .int (-1), .null, .null]) (h2 := rfl) ?_
    refine r_aload_n (pc := 31) d_Md_ask_31 (x := a) rfl ?_
    refine r_getI (pc := 32) d_Md_ask_32 f_Md_442 sa rfl ?_
    refine r_istore (pc := 35) (hd := d_Md_ask_35) (hi := by decide) (ls2 := [.ref a, .int p0, .int p1, .int p2, .int x2, .int (-1), .int (S4.1 a 39), .null]) (h2 := rfl) ?_
    refine r_iconst (pc := 37) d_Md_ask_37 (v := 0) (by decide) ?_
    refine r_istore (pc := 38) (hd := d_Md_ask_38) (hi := by decide) (ls2 := [.ref a, .int p0, .int p1, .int p2, .int x2, .int (-1), .int (S4.1 a 39), .int 0]) (h2 := rfl) ?_
    exact r_weak (ls2 := [.ref a, .null, .null, .null, .null, .int (-1), .int (S4.1 a 39), .int 0]) ⟨Or.inr rfl, Or.inl rfl, Or.inl rfl, Or.inl rfl, Or.inl rfl, Or.inr rfl, Or.inr rfl, Or.inr rfl, trivial⟩ h
  · replace h := h.2 c3
    refine r_aload_n (pc := 14) d_Md_ask_14 (x := a) rfl ?_
    refine r_iload (pc := 15) d_Md_ask_15 (x := x2) rfl ?_
    refine r_callV (pc := 17) (k := a) (As := [.int x2]) (rest := []) (mc' := 0) (ms' := 0) lk_Md_118 in_Md_refuse se_Md_refuse sa rfl d_Md_ask_17 k_Md_refuse rfl rfl (Nat.le_of_ble_eq_true rfl) (by decide) (by decide) (Sp.mono h ?_)
    rintro rS5 shS5 S5 ⟨qS5, x6, uS5, h⟩
    subst uS5
    rw [qS5]
    exact r_ireturn (pc := 20) d_Md_ask_20 rfl rfl (Nat.le_refl _) ⟨rfl, _, rfl, h⟩
set_option maxRecDepth 4000 in
theorem s_Md_ask_40 {l : Launch} {d : Nat} {sh : aw_SH} {S : aw_S} {P : Int32 → aw_S → Prop} {a : Nat} {i5 : Int32} {i6 : Int32} {i7 : Int32} (sa : sh[a]? = some (0, 11)) (h : Sp l m_Md_gapsOf d 0 0 [.ref a, .int 0] sh S (gI sh (fun x2 S1 => ((x2 ≤ i7 → Sp l m_Md_orNone d 0 0 [.ref a, .int i5] sh S1 (gI sh (fun x5 S4 => P x5 S4))) ∧ (¬ x2 ≤ i7 → Sp l m_Md_mostAlike d 0 0 [.ref a, .int i7] sh S1 (gI sh (fun x7 S6 => ((x7 < i6 → Sp l m_Md_mostAlike d 0 0 [.ref a, .int i7] sh S6 (gI sh (fun x10 S9 => AW l m_Md_ask (d + 1) 0 0 (gI sh P) 0 0 40 [.ref a, .null, .null, .null, .null, .int i7, .int x10, .int (i7 + 1)] [] sh S9))) ∧ (¬ x7 < i6 → AW l m_Md_ask (d + 1) 0 0 (gI sh P) 0 0 40 [.ref a, .null, .null, .null, .null, .int i5, .int i6, .int (i7 + 1)] [] sh S6))))))))) : AW l m_Md_ask (d + 1) 0 0 (gI sh P) 0 0 40 [.ref a, .null, .null, .null, .null, .int i5, .int i6, .int i7] [] sh S := by
  refine r_iload (pc := 40) d_Md_ask_40 (x := i7) rfl ?_
  refine r_aload_n (pc := 42) d_Md_ask_42 (x := a) rfl ?_
  refine r_iconst (pc := 43) d_Md_ask_43 (v := 0) (by decide) ?_
  refine r_callV (pc := 44) (k := a) (As := [.int 0]) (rest := [.int i7]) (mc' := 0) (ms' := 0) lk_Md_260 in_Md_gapsOf se_Md_gapsOf sa rfl d_Md_ask_44 k_Md_gapsOf rfl rfl (Nat.le_of_ble_eq_true rfl) (by decide) (by decide) (Sp.mono h ?_)
  rintro rS1 shS1 S1 ⟨qS1, x2, uS1, h⟩
  subst uS1
  rw [qS1]
  refine r_icmp_ge (pc := 47) d_Md_ask_47 (tgt := 82) (by decide) (fun c3 => ?_) (fun c3 => ?_)
  · replace h := h.1 c3
    refine r_aload_n (pc := 82) d_Md_ask_82 (x := a) rfl ?_
    refine r_iload (pc := 83) d_Md_ask_83 (x := i5) rfl ?_
    refine r_callV (pc := 85) (k := a) (As := [.int i5]) (rest := []) (mc' := 0) (ms' := 0) lk_Md_433 in_Md_orNone se_Md_orNone sa rfl d_Md_ask_85 k_Md_orNone rfl rfl (Nat.le_of_ble_eq_true rfl) (by decide) (by decide) (Sp.mono h ?_)
    rintro rS4 shS4 S4 ⟨qS4, x5, uS4, h⟩
    subst uS4
    rw [qS4]
    exact r_ireturn (pc := 88) d_Md_ask_88 rfl rfl (Nat.le_refl _) ⟨rfl, _, rfl, h⟩
  · replace h := h.2 c3
    refine r_aload_n (pc := 50) d_Md_ask_50 (x := a) rfl ?_
    refine r_iload (pc := 51) d_Md_ask_51 (x := i7) rfl ?_
    refine r_callV (pc := 53) (k := a) (As := [.int i7]) (rest := []) (mc' := 0) (ms' := 0) lk_Md_463 in_Md_mostAlike se_Md_mostAlike sa rfl d_Md_ask_53 k_Md_mostAlike rfl rfl (Nat.le_of_ble_eq_true rfl) (by decide) (by decide) (Sp.mono h ?_)
    rintro rS6 shS6 S6 ⟨qS6, x7, uS6, h⟩
    subst uS6
    rw [qS6]
    refine r_iload (pc := 56) d_Md_ask_56 (x := i6) rfl ?_
    refine r_icmp_lt (pc := 58) d_Md_ask_58 (tgt := 64) (by decide) (fun c8 => ?_) (fun c8 => ?_)
    · replace h := h.1 c8
      refine r_aload_n (pc := 64) d_Md_ask_64 (x := a) rfl ?_
      refine r_iload (pc := 65) d_Md_ask_65 (x := i7) rfl ?_
      refine r_callV (pc := 67) (k := a) (As := [.int i7]) (rest := []) (mc' := 0) (ms' := 0) lk_Md_463 in_Md_mostAlike se_Md_mostAlike sa rfl d_Md_ask_67 k_Md_mostAlike rfl rfl (Nat.le_of_ble_eq_true rfl) (by decide) (by decide) (Sp.mono h ?_)
      rintro rS9 shS9 S9 ⟨qS9, x10, uS9, h⟩
      subst uS9
      rw [qS9]
      refine r_istore (pc := 70) (hd := d_Md_ask_70) (hi := by decide) (ls2 := [.ref a, .null, .null, .null, .null, .int i5, .int x10, .int i7]) (h2 := rfl) ?_
      refine r_iload (pc := 72) d_Md_ask_72 (x := i7) rfl ?_
      refine r_istore (pc := 74) (hd := d_Md_ask_74) (hi := by decide) (ls2 := [.ref a, .null, .null, .null, .null, .int i7, .int x10, .int i7]) (h2 := rfl) ?_
      refine r_iinc (pc := 76) d_Md_ask_76 (hi := by decide) (x := i7) rfl (v := i7 + 1) rfl (ls2 := [.ref a, .null, .null, .null, .null, .int i7, .int x10, .int (i7 + 1)]) rfl ?_
      refine r_goto (pc := 79) d_Md_ask_79 (tgt := 40) (by decide) ?_
      exact h
    · replace h := h.2 c8
      refine r_goto (pc := 61) d_Md_ask_61 (tgt := 76) (by decide) ?_
      refine r_iinc (pc := 76) d_Md_ask_76 (hi := by decide) (x := i7) rfl (v := i7 + 1) rfl (ls2 := [.ref a, .null, .null, .null, .null, .int i5, .int i6, .int (i7 + 1)]) rfl ?_
      refine r_goto (pc := 79) d_Md_ask_79 (tgt := 40) (by decide) ?_
      exact h
set_option maxRecDepth 4000 in
theorem e_Md_mostAlike {l : Launch} {d : Nat} {sh : aw_SH} {S : aw_S} {P : Int32 → aw_S → Prop} {a : Nat} {p0 : Int32} (sa : sh[a]? = some (0, 11)) (h : AW l m_Md_mostAlike (d + 1) 0 0 (gI sh P) 0 0 4 [.ref a, .int p0, .int 0, .int 0] [] sh S) : Sp l m_Md_mostAlike (d + 1) 0 0 [.ref a, .int p0] sh S (gI sh P) := by
  refine Sp.of k_Md_mostAlike (ls := [.ref a, .int p0, .null, .null]) rfl (Nat.le_of_ble_eq_true rfl) ?_
  refine r_iconst (pc := 0) d_Md_mostAlike_0 (v := 0) (by decide) ?_
  refine r_istore_n (pc := 1) (hk := rfl) (hd := d_Md_mostAlike_1) (hi := by decide) (ls2 := [.ref a, .int p0, .int 0, .null]) (h2 := rfl) ?_
  refine r_iconst (pc := 2) d_Md_mostAlike_2 (v := 0) (by decide) ?_
  refine r_istore_n (pc := 3) (hk := rfl) (hd := d_Md_mostAlike_3) (hi := by decide) (ls2 := [.ref a, .int p0, .int 0, .int 0]) (h2 := rfl) ?_
  exact h
set_option maxRecDepth 4000 in
theorem s_Md_mostAlike_4 {l : Launch} {d : Nat} {sh : aw_SH} {S : aw_S} {P : Int32 → aw_S → Prop} {a : Nat} {i1 : Int32} {i2 : Int32} {i3 : Int32} (sa : sh[a]? = some (0, 11)) (h : ((7 ≤ i3 → P i2 S) ∧ (¬ 7 ≤ i3 → ∃ r2, S.2.2 a 38 = some r2 ∧ ∃ n4, sh[r2]? = some (3, n4) ∧ vp_in (((7 : Int32) * i1) + i3) n4 ∧ Sp l m_Ma_max d 0 0 [.int i2, .int (S.1 r2 (((7 : Int32) * i1) + i3 : Int32).toNatClampNeg)] sh S (gI sh (fun x7 S6 => AW l m_Md_mostAlike (d + 1) 0 0 (gI sh P) 0 0 4 [.ref a, .int i1, .int x7, .int (i3 + 1)] [] sh S6))))) : AW l m_Md_mostAlike (d + 1) 0 0 (gI sh P) 0 0 4 [.ref a, .int i1, .int i2, .int i3] [] sh S := by
  refine r_iload_n (pc := 4) d_Md_mostAlike_4 (x := i3) rfl ?_
  refine r_bipush (pc := 5) d_Md_mostAlike_5 (v := 7) (by decide) ?_
  refine r_icmp_ge (pc := 7) d_Md_mostAlike_7 (tgt := 32) (by decide) (fun c1 => ?_) (fun c1 => ?_)
  · replace h := h.1 c1
    refine r_iload_n (pc := 32) d_Md_mostAlike_32 (x := i2) rfl ?_
    exact r_ireturn (pc := 33) d_Md_mostAlike_33 rfl rfl (Nat.le_refl _) ⟨rfl, _, rfl, h⟩
  · replace h := h.2 c1
    refine r_iload_n (pc := 10) d_Md_mostAlike_10 (x := i2) rfl ?_
    refine r_aload_n (pc := 11) d_Md_mostAlike_11 (x := a) rfl ?_
    obtain ⟨r2, er2, h⟩ := h
    refine r_getR (pc := 12) d_Md_mostAlike_12 f_Md_81 sa (Or.inr ⟨_, rfl⟩) (r := r2) er2 ?_
    refine r_bipush (pc := 15) d_Md_mostAlike_15 (v := 7) (by decide) ?_
    refine r_iload_n (pc := 17) d_Md_mostAlike_17 (x := i1) rfl ?_
    refine r_imul (pc := 18) d_Md_mostAlike_18 ?_
    refine r_iload_n (pc := 19) d_Md_mostAlike_19 (x := i3) rfl ?_
    refine r_iadd (pc := 20) d_Md_mostAlike_20 ?_
    obtain ⟨n4, s3, h⟩ := h
    obtain ⟨g5, h⟩ := h
    refine r_iald (pc := 21) d_Md_mostAlike_21 s3 g5 ?_
    refine r_callS (pc := 22) (k := 0) (As := [.int i2, .int (S.1 r2 (((7 : Int32) * i1) + i3 : Int32).toNatClampNeg)]) (rest := []) (mc' := 0) (ms' := 0) lk_Md_214 st_Ma_max d_Md_mostAlike_22 k_Ma_max rfl rfl (Nat.le_of_ble_eq_true rfl) (by decide) (by decide) (Sp.mono h ?_)
    rintro rS6 shS6 S6 ⟨qS6, x7, uS6, h⟩
    subst uS6
    rw [qS6]
    refine r_istore_n (pc := 25) (hk := rfl) (hd := d_Md_mostAlike_25) (hi := by decide) (ls2 := [.ref a, .int i1, .int x7, .int i3]) (h2 := rfl) ?_
    refine r_iinc (pc := 26) d_Md_mostAlike_26 (hi := by decide) (x := i3) rfl (v := i3 + 1) rfl (ls2 := [.ref a, .int i1, .int x7, .int (i3 + 1)]) rfl ?_
    refine r_goto (pc := 29) d_Md_mostAlike_29 (tgt := 4) (by decide) ?_
    exact h
set_option maxRecDepth 4000 in
theorem e_Md_game {l : Launch} {d : Nat} {sh : aw_SH} {S : aw_S} {P : Int32 → aw_S → Prop} {a : Nat} {p0 : Int32} (sa : sh[a]? = some (0, 11)) (h : Sp l m_Md_isFrom d 0 0 [.long p0.toInt64, .long 0, .long 3] sh S (gI sh (fun x2 S1 => ((x2 = 0 → Sp l m_Md_refuse d 0 0 [.ref a, .int 1] sh S1 (gI sh (fun x5 S4 => P x5 S4))) ∧ (¬ x2 = 0 → Sp l m_Md_playing d 0 0 [.ref a, .int p0] sh S1 (gI sh (fun x7 S6 => Sp l m_Md_gives d 0 0 [.ref a, .int x7] sh S6 (gI sh (fun x9 S8 => P x9 S8))))))))) : Sp l m_Md_game (d + 1) 0 0 [.ref a, .int p0] sh S (gI sh P) := by
  refine Sp.of k_Md_game (ls := [.ref a, .int p0]) rfl (Nat.le_of_ble_eq_true rfl) ?_
  refine r_iload_n (pc := 0) d_Md_game_0 (x := p0) rfl ?_
  refine r_i2l (pc := 1) d_Md_game_1 ?_
  refine r_lconst (pc := 2) d_Md_game_2 (v := 0) (by decide) ?_
  refine r_ldc2 (pc := 3) d_Md_game_3 cl_Md_472 ?_
  refine r_callS (pc := 6) (k := 0) (As := [.long p0.toInt64, .long 0, .long 3]) (rest := []) (mc' := 0) (ms' := 0) lk_Md_372 st_Md_isFrom d_Md_game_6 k_Md_isFrom rfl rfl (Nat.le_of_ble_eq_true rfl) (by decide) (by decide) (Sp.mono h ?_)
  rintro rS1 shS1 S1 ⟨qS1, x2, uS1, h⟩
  subst uS1
  rw [qS1]
  refine r_if_eq (pc := 9) d_Md_game_9 (tgt := 24) (by decide) (fun c3 => ?_) (fun c3 => ?_)
  · replace h := h.1 c3
    refine r_aload_n (pc := 24) d_Md_game_24 (x := a) rfl ?_
    refine r_iconst (pc := 25) d_Md_game_25 (v := 1) (by decide) ?_
    refine r_callV (pc := 26) (k := a) (As := [.int 1]) (rest := []) (mc' := 0) (ms' := 0) lk_Md_118 in_Md_refuse se_Md_refuse sa rfl d_Md_game_26 k_Md_refuse rfl rfl (Nat.le_of_ble_eq_true rfl) (by decide) (by decide) (Sp.mono h ?_)
    rintro rS4 shS4 S4 ⟨qS4, x5, uS4, h⟩
    subst uS4
    rw [qS4]
    exact r_ireturn (pc := 29) d_Md_game_29 rfl rfl (Nat.le_refl _) ⟨rfl, _, rfl, h⟩
  · replace h := h.2 c3
    refine r_aload_n (pc := 12) d_Md_game_12 (x := a) rfl ?_
    refine r_aload_n (pc := 13) d_Md_game_13 (x := a) rfl ?_
    refine r_iload_n (pc := 14) d_Md_game_14 (x := p0) rfl ?_
    refine r_callV (pc := 15) (k := a) (As := [.int p0]) (rest := [.ref a]) (mc' := 0) (ms' := 0) lk_Md_474 in_Md_playing se_Md_playing sa rfl d_Md_game_15 k_Md_playing rfl rfl (Nat.le_of_ble_eq_true rfl) (by decide) (by decide) (Sp.mono h ?_)
    rintro rS6 shS6 S6 ⟨qS6, x7, uS6, h⟩
    subst uS6
    rw [qS6]
    refine r_callV (pc := 18) (k := a) (As := [.int x7]) (rest := []) (mc' := 0) (ms' := 0) lk_Md_122 in_Md_gives se_Md_gives sa rfl d_Md_game_18 k_Md_gives rfl rfl (Nat.le_of_ble_eq_true rfl) (by decide) (by decide) (Sp.mono h ?_)
    rintro rS8 shS8 S8 ⟨qS8, x9, uS8, h⟩
    subst uS8
    rw [qS8]
    refine r_goto (pc := 21) d_Md_game_21 (tgt := 29) (by decide) ?_
    exact r_ireturn (pc := 29) d_Md_game_29 rfl rfl (Nat.le_refl _) ⟨rfl, _, rfl, h⟩
set_option maxRecDepth 4000 in
theorem e_Md_playing {l : Launch} {d : Nat} {sh : aw_SH} {S : aw_S} {P : Int32 → aw_S → Prop} {a : Nat} {p0 : Int32} (sa : sh[a]? = some (0, 11)) (h : ((¬ p0 = 0 → Sp l m_Md_beginsAt d 0 0 [.ref a, .int 0] sh S (gV sh (fun S2 => AW l m_Md_playing (d + 1) 0 0 (gI sh P) 0 0 16 [.ref a, .int p0, .int 0, .null] [] sh S2))) ∧ (p0 = 0 → Sp l m_Md_howManyShow d 0 0 [.ref a] sh S (gI sh (fun x4 S3 => P x4 S3))))) : Sp l m_Md_playing (d + 1) 0 0 [.ref a, .int p0] sh S (gI sh P) := by
  refine Sp.of k_Md_playing (ls := [.ref a, .int p0, .null, .null]) rfl (Nat.le_of_ble_eq_true rfl) ?_
  refine r_iload_n (pc := 0) d_Md_playing_0 (x := p0) rfl ?_
  refine r_if_ne (pc := 1) d_Md_playing_1 (tgt := 9) (by decide) (fun c1 => ?_) (fun c1 => ?_)
  · replace h := h.1 c1
    refine r_iconst (pc := 9) d_Md_playing_9 (v := 0) (by decide) ?_
    refine r_istore_n (pc := 10) (hk := rfl) (hd := d_Md_playing_10) (hi := by decide) (ls2 := [.ref a, .int p0, .int 0, .null]) (h2 := rfl) ?_
    refine r_aload_n (pc := 11) d_Md_playing_11 (x := a) rfl ?_
    refine r_iconst (pc := 12) d_Md_playing_12 (v := 0) (by decide) ?_
    refine r_callV (pc := 13) (k := a) (As := [.int 0]) (rest := []) (mc' := 0) (ms' := 0) lk_Md_466 in_Md_beginsAt se_Md_beginsAt sa rfl d_Md_playing_13 k_Md_beginsAt rfl rfl (Nat.le_of_ble_eq_true rfl) (by decide) (by decide) (Sp.mono h ?_)
    rintro rS2 shS2 S2 ⟨qS2, uS2, h⟩
    subst uS2
    rw [qS2]
    exact h
  · replace h := h.2 c1
    refine r_aload_n (pc := 4) d_Md_playing_4 (x := a) rfl ?_
    refine r_callV (pc := 5) (k := a) (As := []) (rest := []) (mc' := 0) (ms' := 0) lk_Md_334 in_Md_howManyShow se_Md_howManyShow sa rfl d_Md_playing_5 k_Md_howManyShow rfl rfl (Nat.le_of_ble_eq_true rfl) (by decide) (by decide) (Sp.mono h ?_)
    rintro rS3 shS3 S3 ⟨qS3, x4, uS3, h⟩
    subst uS3
    rw [qS3]
    exact r_ireturn (pc := 8) d_Md_playing_8 rfl rfl (Nat.le_refl _) ⟨rfl, _, rfl, h⟩
set_option maxRecDepth 4000 in
theorem s_Md_playing_16 {l : Launch} {d : Nat} {sh : aw_SH} {S : aw_S} {P : Int32 → aw_S → Prop} {a : Nat} {i1 : Int32} {i2 : Int32} (sa : sh[a]? = some (0, 11)) (h : Sp l m_Md_levelAt d 0 0 [.int i2] sh S (gI sh (fun x2 S1 => Sp l m_Md_restores d 0 0 [.ref a, .int x2] sh S1 (gV sh (fun S3 => ∃ r4, S3.2.2 a 36 = some r4 ∧ ∃ n6, sh[r4]? = some (3, n6) ∧ vp_in i2 n6 ∧ vp_in i2 n6 ∧ vp_in i2 n6 ∧ ∀ v10 : Int32, v10 = (aw_uI S3 r4 i2.toNatClampNeg ((S3.1 r4 i2.toNatClampNeg) + (1 : Int32))).1 r4 i2.toNatClampNeg → Sp l m_Md_gapsOf d 0 0 [.ref a, .int 0] sh (aw_uI S3 r4 i2.toNatClampNeg ((S3.1 r4 i2.toNatClampNeg) + (1 : Int32))) (gI sh (fun x12 S11 => ((v10 ≤ ((2 : Int32) * x12) → Sp l m_Md_gapsOf d 0 0 [.ref a, .int 0] sh S11 (gI sh (fun x15 S14 => ((((2 : Int32) * x15) ≤ v10 → ((¬ (i2 + (1 : Int32)) = i1 → Sp l m_Md_beginsAt d 0 0 [.ref a, .int (i2 + 1)] sh S14 (gV sh (fun S18 => AW l m_Md_playing (d + 1) 0 0 (gI sh P) 0 0 16 [.ref a, .int i1, .int (i2 + 1), .null] [] sh S18))) ∧ ((i2 + (1 : Int32)) = i1 → Sp l m_Md_howManyShow d 0 0 [.ref a] sh S14 (gI sh (fun x20 S19 => Sp l m_Md_settles d 0 0 [.ref a, .int i2, .int x20] sh S19 (gV sh (fun S21 => AW l m_Md_playing (d + 1) 0 0 (gI sh P) 0 0 16 [.ref a, .int i1, .int i2, .null] [] sh S21))))))) ∧ (¬ ((2 : Int32) * x15) ≤ v10 → Sp l m_Md_dances d 0 0 [.ref a, .int 0, .int (v10 / (2 : Int32)), .int (v10 - v10 / (2 : Int32) * (2 : Int32))] sh S14 (gI sh (fun x23 S22 => ((¬ x23 = 0 → ((¬ (i2 + (1 : Int32)) = i1 → Sp l m_Md_beginsAt d 0 0 [.ref a, .int (i2 + 1)] sh S22 (gV sh (fun S26 => AW l m_Md_playing (d + 1) 0 0 (gI sh P) 0 0 16 [.ref a, .int i1, .int (i2 + 1), .null] [] sh S26))) ∧ ((i2 + (1 : Int32)) = i1 → Sp l m_Md_howManyShow d 0 0 [.ref a] sh S22 (gI sh (fun x28 S27 => Sp l m_Md_settles d 0 0 [.ref a, .int i2, .int x28] sh S27 (gV sh (fun S29 => AW l m_Md_playing (d + 1) 0 0 (gI sh P) 0 0 16 [.ref a, .int i1, .int i2, .null] [] sh S29))))))) ∧ (x23 = 0 → AW l m_Md_playing (d + 1) 0 0 (gI sh P) 0 0 16 [.ref a, .int i1, .int i2, .null] [] sh S22))))))))) ∧ (¬ v10 ≤ ((2 : Int32) * x12) → ((¬ i2 = 0 → ∃ r31, S11.2.2 a 40 = some r31 ∧ ∃ n33, sh[r31]? = some (3, n33) ∧ vp_in ((i2 + (-1)) + (1 : Int32)) n33 ∧ Sp l m_Md_settles d 0 0 [.ref a, .int (i2 + (-1)), .int (S11.1 r31 ((i2 + (-1)) + (1 : Int32) : Int32).toNatClampNeg)] sh S11 (gV sh (fun S35 => AW l m_Md_playing (d + 1) 0 0 (gI sh P) 0 0 16 [.ref a, .int i1, .int (i2 + (-1)), .null] [] sh S35))) ∧ (i2 = 0 → Sp l m_Md_levelAt d 0 0 [.int 0] sh S11 (gI sh (fun x37 S36 => Sp l m_Md_restores d 0 0 [.ref a, .int x37] sh S36 (gV sh (fun S38 => ∃ r39, S38.2.2 a 40 = some r39 ∧ ∃ n41, sh[r39]? = some (3, n41) ∧ vp_in 0 n41 ∧ P (S38.1 r39 (0 : Int32).toNatClampNeg) S38))))))))))))))) : AW l m_Md_playing (d + 1) 0 0 (gI sh P) 0 0 16 [.ref a, .int i1, .int i2, .null] [] sh S := by
  refine r_aload_n (pc := 16) d_Md_playing_16 (x := a) rfl ?_
  refine r_iload_n (pc := 17) d_Md_playing_17 (x := i2) rfl ?_
  refine r_callS (pc := 18) (k := 0) (As := [.int i2]) (rest := [.ref a]) (mc' := 0) (ms' := 0) lk_Md_448 st_Md_levelAt d_Md_playing_18 k_Md_levelAt rfl rfl (Nat.le_of_ble_eq_true rfl) (by decide) (by decide) (Sp.mono h ?_)
  rintro rS1 shS1 S1 ⟨qS1, x2, uS1, h⟩
  subst uS1
  rw [qS1]
  refine r_callV (pc := 21) (k := a) (As := [.int x2]) (rest := []) (mc' := 0) (ms' := 0) lk_Md_454 in_Md_restores se_Md_restores sa rfl d_Md_playing_21 k_Md_restores rfl rfl (Nat.le_of_ble_eq_true rfl) (by decide) (by decide) (Sp.mono h ?_)
  rintro rS3 shS3 S3 ⟨qS3, uS3, h⟩
  subst uS3
  rw [qS3]
  refine r_aload_n (pc := 24) d_Md_playing_24 (x := a) rfl ?_
  obtain ⟨r4, er4, h⟩ := h
  refine r_getR (pc := 25) d_Md_playing_25 f_Md_75 sa (Or.inr ⟨_, rfl⟩) (r := r4) er4 ?_
  refine r_iload_n (pc := 28) d_Md_playing_28 (x := i2) rfl ?_
  refine r_dup2 (pc := 29) d_Md_playing_29 rfl rfl ?_
  obtain ⟨n6, s5, h⟩ := h
  obtain ⟨g7, h⟩ := h
  refine r_iald (pc := 30) d_Md_playing_30 s5 g7 ?_
  refine r_iconst (pc := 31) d_Md_playing_31 (v := 1) (by decide) ?_
  refine r_iadd (pc := 32) d_Md_playing_32 ?_
  obtain ⟨g8, h⟩ := h
  refine r_iast (pc := 33) d_Md_playing_33 s5 g8 ?_
  refine r_aload_n (pc := 34) d_Md_playing_34 (x := a) rfl ?_
  refine r_getR (pc := 35) d_Md_playing_35 f_Md_75 sa (Or.inr ⟨_, rfl⟩) (r := r4) er4 ?_
  refine r_iload_n (pc := 38) d_Md_playing_38 (x := i2) rfl ?_
  obtain ⟨g9, h⟩ := h
  refine r_iald (pc := 39) d_Md_playing_39 s5 g9 ?_
  refine r_ni (fun v10 ev10 => ?_)
  replace h := h v10 ev10
  refine r_istore_n (pc := 40) (hk := rfl) (hd := d_Md_playing_40) (hi := by decide) (ls2 := [.ref a, .int i1, .int i2, .int v10]) (h2 := rfl) ?_
  refine r_iload_n (pc := 41) d_Md_playing_41 (x := v10) rfl ?_
  refine r_iconst (pc := 42) d_Md_playing_42 (v := 2) (by decide) ?_
  refine r_aload_n (pc := 43) d_Md_playing_43 (x := a) rfl ?_
  refine r_iconst (pc := 44) d_Md_playing_44 (v := 0) (by decide) ?_
  refine r_callV (pc := 45) (k := a) (As := [.int 0]) (rest := [.int 2, .int v10]) (mc' := 0) (ms' := 0) lk_Md_260 in_Md_gapsOf se_Md_gapsOf sa rfl d_Md_playing_45 k_Md_gapsOf rfl rfl (Nat.le_of_ble_eq_true rfl) (by decide) (by decide) (Sp.mono h ?_)
  rintro rS11 shS11 S11 ⟨qS11, x12, uS11, h⟩
  subst uS11
  rw [qS11]
  refine r_imul (pc := 48) d_Md_playing_48 ?_
  refine r_icmp_le (pc := 49) d_Md_playing_49 (tgt := 78) (by decide) (fun c13 => ?_) (fun c13 => ?_)
  · replace h := h.1 c13
    refine r_iload_n (pc := 78) d_Md_playing_78 (x := v10) rfl ?_
    refine r_iconst (pc := 79) d_Md_playing_79 (v := 2) (by decide) ?_
    refine r_aload_n (pc := 80) d_Md_playing_80 (x := a) rfl ?_
    refine r_iconst (pc := 81) d_Md_playing_81 (v := 0) (by decide) ?_
    refine r_callV (pc := 82) (k := a) (As := [.int 0]) (rest := [.int 2, .int v10]) (mc' := 0) (ms' := 0) lk_Md_260 in_Md_gapsOf se_Md_gapsOf sa rfl d_Md_playing_82 k_Md_gapsOf rfl rfl (Nat.le_of_ble_eq_true rfl) (by decide) (by decide) (Sp.mono h ?_)
    rintro rS14 shS14 S14 ⟨qS14, x15, uS14, h⟩
    subst uS14
    rw [qS14]
    refine r_imul (pc := 85) d_Md_playing_85 ?_
    refine r_icmp_ge (pc := 86) d_Md_playing_86 (tgt := 106) (by decide) (fun c16 => ?_) (fun c16 => ?_)
    · replace h := h.1 c16
      refine r_iload_n (pc := 106) d_Md_playing_106 (x := i2) rfl ?_
      refine r_iconst (pc := 107) d_Md_playing_107 (v := 1) (by decide) ?_
      refine r_iadd (pc := 108) d_Md_playing_108 ?_
      refine r_iload_n (pc := 109) d_Md_playing_109 (x := i1) rfl ?_
      refine r_icmp_ne (pc := 110) d_Md_playing_110 (tgt := 125) (by decide) (fun c17 => ?_) (fun c17 => ?_)
      · replace h := h.1 c17
        refine r_iinc (pc := 125) d_Md_playing_125 (hi := by decide) (x := i2) rfl (v := i2 + 1) rfl (ls2 := [.ref a, .int i1, .int (i2 + 1), .int v10]) rfl ?_
        refine r_aload_n (pc := 128) d_Md_playing_128 (x := a) rfl ?_
        refine r_iload_n (pc := 129) d_Md_playing_129 (x := (i2 + 1)) rfl ?_
        refine r_callV (pc := 130) (k := a) (As := [.int (i2 + 1)]) (rest := []) (mc' := 0) (ms' := 0) lk_Md_466 in_Md_beginsAt se_Md_beginsAt sa rfl d_Md_playing_130 k_Md_beginsAt rfl rfl (Nat.le_of_ble_eq_true rfl) (by decide) (by decide) (Sp.mono h ?_)
        rintro rS18 shS18 S18 ⟨qS18, uS18, h⟩
        subst uS18
        rw [qS18]
        refine r_goto (pc := 133) d_Md_playing_133 (tgt := 16) (by decide) ?_
        exact r_weak (ls2 := [.ref a, .int i1, .int (i2 + 1), .null]) ⟨Or.inr rfl, Or.inr rfl, Or.inr rfl, Or.inl rfl, trivial⟩ h
      · replace h := h.2 c17
        refine r_aload_n (pc := 113) d_Md_playing_113 (x := a) rfl ?_
        refine r_iload_n (pc := 114) d_Md_playing_114 (x := i2) rfl ?_
        refine r_aload_n (pc := 115) d_Md_playing_115 (x := a) rfl ?_
        refine r_callV (pc := 116) (k := a) (As := []) (rest := [.int i2, .ref a]) (mc' := 0) (ms' := 0) lk_Md_334 in_Md_howManyShow se_Md_howManyShow sa rfl d_Md_playing_116 k_Md_howManyShow rfl rfl (Nat.le_of_ble_eq_true rfl) (by decide) (by decide) (Sp.mono h ?_)
        rintro rS19 shS19 S19 ⟨qS19, x20, uS19, h⟩
        subst uS19
        rw [qS19]
        refine r_callV (pc := 119) (k := a) (As := [.int i2, .int x20]) (rest := []) (mc' := 0) (ms' := 0) lk_Md_469 in_Md_settles se_Md_settles sa rfl d_Md_playing_119 k_Md_settles rfl rfl (Nat.le_of_ble_eq_true rfl) (by decide) (by decide) (Sp.mono h ?_)
        rintro rS21 shS21 S21 ⟨qS21, uS21, h⟩
        subst uS21
        rw [qS21]
        refine r_goto (pc := 122) d_Md_playing_122 (tgt := 133) (by decide) ?_
        refine r_goto (pc := 133) d_Md_playing_133 (tgt := 16) (by decide) ?_
        exact r_weak (ls2 := [.ref a, .int i1, .int i2, .null]) ⟨Or.inr rfl, Or.inr rfl, Or.inr rfl, Or.inl rfl, trivial⟩ h
    · replace h := h.2 c16
      refine r_aload_n (pc := 89) d_Md_playing_89 (x := a) rfl ?_
      refine r_iconst (pc := 90) d_Md_playing_90 (v := 0) (by decide) ?_
      refine r_iload_n (pc := 91) d_Md_playing_91 (x := v10) rfl ?_
      refine r_iconst (pc := 92) d_Md_playing_92 (v := 2) (by decide) ?_
      refine r_idiv (pc := 93) d_Md_playing_93 (by decide) ?_
      refine r_iload_n (pc := 94) d_Md_playing_94 (x := v10) rfl ?_
      refine r_iconst (pc := 95) d_Md_playing_95 (v := 2) (by decide) ?_
      refine r_irem (pc := 96) d_Md_playing_96 (by decide) ?_
      refine r_callV (pc := 97) (k := a) (As := [.int 0, .int (v10 / (2 : Int32)), .int (v10 - v10 / (2 : Int32) * (2 : Int32))]) (rest := []) (mc' := 0) (ms' := 0) lk_Md_269 in_Md_dances se_Md_dances sa rfl d_Md_playing_97 k_Md_dances rfl rfl (Nat.le_of_ble_eq_true rfl) (by decide) (by decide) (Sp.mono h ?_)
      rintro rS22 shS22 S22 ⟨qS22, x23, uS22, h⟩
      subst uS22
      rw [qS22]
      refine r_if_ne (pc := 100) d_Md_playing_100 (tgt := 106) (by decide) (fun c24 => ?_) (fun c24 => ?_)
      · replace h := h.1 c24
        refine r_iload_n (pc := 106) d_Md_playing_106 (x := i2) rfl ?_
        refine r_iconst (pc := 107) d_Md_playing_107 (v := 1) (by decide) ?_
        refine r_iadd (pc := 108) d_Md_playing_108 ?_
        refine r_iload_n (pc := 109) d_Md_playing_109 (x := i1) rfl ?_
        refine r_icmp_ne (pc := 110) d_Md_playing_110 (tgt := 125) (by decide) (fun c25 => ?_) (fun c25 => ?_)
        · replace h := h.1 c25
          refine r_iinc (pc := 125) d_Md_playing_125 (hi := by decide) (x := i2) rfl (v := i2 + 1) rfl (ls2 := [.ref a, .int i1, .int (i2 + 1), .int v10]) rfl ?_
          refine r_aload_n (pc := 128) d_Md_playing_128 (x := a) rfl ?_
          refine r_iload_n (pc := 129) d_Md_playing_129 (x := (i2 + 1)) rfl ?_
          refine r_callV (pc := 130) (k := a) (As := [.int (i2 + 1)]) (rest := []) (mc' := 0) (ms' := 0) lk_Md_466 in_Md_beginsAt se_Md_beginsAt sa rfl d_Md_playing_130 k_Md_beginsAt rfl rfl (Nat.le_of_ble_eq_true rfl) (by decide) (by decide) (Sp.mono h ?_)
          rintro rS26 shS26 S26 ⟨qS26, uS26, h⟩
          subst uS26
          rw [qS26]
          refine r_goto (pc := 133) d_Md_playing_133 (tgt := 16) (by decide) ?_
          exact r_weak (ls2 := [.ref a, .int i1, .int (i2 + 1), .null]) ⟨Or.inr rfl, Or.inr rfl, Or.inr rfl, Or.inl rfl, trivial⟩ h
        · replace h := h.2 c25
          refine r_aload_n (pc := 113) d_Md_playing_113 (x := a) rfl ?_
          refine r_iload_n (pc := 114) d_Md_playing_114 (x := i2) rfl ?_
          refine r_aload_n (pc := 115) d_Md_playing_115 (x := a) rfl ?_
          refine r_callV (pc := 116) (k := a) (As := []) (rest := [.int i2, .ref a]) (mc' := 0) (ms' := 0) lk_Md_334 in_Md_howManyShow se_Md_howManyShow sa rfl d_Md_playing_116 k_Md_howManyShow rfl rfl (Nat.le_of_ble_eq_true rfl) (by decide) (by decide) (Sp.mono h ?_)
          rintro rS27 shS27 S27 ⟨qS27, x28, uS27, h⟩
          subst uS27
          rw [qS27]
          refine r_callV (pc := 119) (k := a) (As := [.int i2, .int x28]) (rest := []) (mc' := 0) (ms' := 0) lk_Md_469 in_Md_settles se_Md_settles sa rfl d_Md_playing_119 k_Md_settles rfl rfl (Nat.le_of_ble_eq_true rfl) (by decide) (by decide) (Sp.mono h ?_)
          rintro rS29 shS29 S29 ⟨qS29, uS29, h⟩
          subst uS29
          rw [qS29]
          refine r_goto (pc := 122) d_Md_playing_122 (tgt := 133) (by decide) ?_
          refine r_goto (pc := 133) d_Md_playing_133 (tgt := 16) (by decide) ?_
          exact r_weak (ls2 := [.ref a, .int i1, .int i2, .null]) ⟨Or.inr rfl, Or.inr rfl, Or.inr rfl, Or.inl rfl, trivial⟩ h
      · replace h := h.2 c24
        refine r_goto (pc := 103) d_Md_playing_103 (tgt := 16) (by decide) ?_
        exact r_weak (ls2 := [.ref a, .int i1, .int i2, .null]) ⟨Or.inr rfl, Or.inr rfl, Or.inr rfl, Or.inl rfl, trivial⟩ h
  · replace h := h.2 c13
    refine r_iload_n (pc := 52) d_Md_playing_52 (x := i2) rfl ?_
    refine r_if_ne (pc := 53) d_Md_playing_53 (tgt := 59) (by decide) (fun c30 => ?_) (fun c30 => ?_)
    · replace h := h.1 c30
      refine r_iinc (pc := 59) d_Md_playing_59 (hi := by decide) (x := i2) rfl (v := i2 + (-1)) rfl (ls2 := [.ref a, .int i1, .int (i2 + (-1)), .int v10]) rfl ?_
      refine r_aload_n (pc := 62) d_Md_playing_62 (x := a) rfl ?_
      refine r_iload_n (pc := 63) d_Md_playing_63 (x := (i2 + (-1))) rfl ?_
      refine r_aload_n (pc := 64) d_Md_playing_64 (x := a) rfl ?_
      obtain ⟨r31, er31, h⟩ := h
      refine r_getR (pc := 65) d_Md_playing_65 f_Md_84 sa (Or.inr ⟨_, rfl⟩) (r := r31) er31 ?_
      refine r_iload_n (pc := 68) d_Md_playing_68 (x := (i2 + (-1))) rfl ?_
      refine r_iconst (pc := 69) d_Md_playing_69 (v := 1) (by decide) ?_
      refine r_iadd (pc := 70) d_Md_playing_70 ?_
      obtain ⟨n33, s32, h⟩ := h
      obtain ⟨g34, h⟩ := h
      refine r_iald (pc := 71) d_Md_playing_71 s32 g34 ?_
      refine r_callV (pc := 72) (k := a) (As := [.int (i2 + (-1)), .int (S11.1 r31 ((i2 + (-1)) + (1 : Int32) : Int32).toNatClampNeg)]) (rest := []) (mc' := 0) (ms' := 0) lk_Md_469 in_Md_settles se_Md_settles sa rfl d_Md_playing_72 k_Md_settles rfl rfl (Nat.le_of_ble_eq_true rfl) (by decide) (by decide) (Sp.mono h ?_)
      rintro rS35 shS35 S35 ⟨qS35, uS35, h⟩
      subst uS35
      rw [qS35]
      refine r_goto (pc := 75) d_Md_playing_75 (tgt := 16) (by decide) ?_
      exact r_weak (ls2 := [.ref a, .int i1, .int (i2 + (-1)), .null]) ⟨Or.inr rfl, Or.inr rfl, Or.inr rfl, Or.inl rfl, trivial⟩ h
    · replace h := h.2 c30
      refine r_goto (pc := 56) d_Md_playing_56 (tgt := 136) (by decide) ?_
      refine r_aload_n (pc := 136) d_Md_playing_136 (x := a) rfl ?_
      refine r_iconst (pc := 137) d_Md_playing_137 (v := 0) (by decide) ?_
      refine r_callS (pc := 138) (k := 0) (As := [.int 0]) (rest := [.ref a]) (mc' := 0) (ms' := 0) lk_Md_448 st_Md_levelAt d_Md_playing_138 k_Md_levelAt rfl rfl (Nat.le_of_ble_eq_true rfl) (by decide) (by decide) (Sp.mono h ?_)
      rintro rS36 shS36 S36 ⟨qS36, x37, uS36, h⟩
      subst uS36
      rw [qS36]
      refine r_callV (pc := 141) (k := a) (As := [.int x37]) (rest := []) (mc' := 0) (ms' := 0) lk_Md_454 in_Md_restores se_Md_restores sa rfl d_Md_playing_141 k_Md_restores rfl rfl (Nat.le_of_ble_eq_true rfl) (by decide) (by decide) (Sp.mono h ?_)
      rintro rS38 shS38 S38 ⟨qS38, uS38, h⟩
      subst uS38
      rw [qS38]
      refine r_aload_n (pc := 144) d_Md_playing_144 (x := a) rfl ?_
      obtain ⟨r39, er39, h⟩ := h
      refine r_getR (pc := 145) d_Md_playing_145 f_Md_84 sa (Or.inr ⟨_, rfl⟩) (r := r39) er39 ?_
      refine r_iconst (pc := 148) d_Md_playing_148 (v := 0) (by decide) ?_
      obtain ⟨n41, s40, h⟩ := h
      obtain ⟨g42, h⟩ := h
      refine r_iald (pc := 149) d_Md_playing_149 s40 g42 ?_
      exact r_ireturn (pc := 150) d_Md_playing_150 rfl rfl (Nat.le_refl _) ⟨rfl, _, rfl, h⟩
set_option maxRecDepth 4000 in
theorem e_Md_beginsAt {l : Launch} {d : Nat} {sh : aw_SH} {S : aw_S} {P : aw_S → Prop} {a : Nat} {p0 : Int32} (sa : sh[a]? = some (0, 11)) (h : Sp l m_Md_levelAt d 0 0 [.int p0] sh S (gI sh (fun x2 S1 => Sp l m_Md_keeps d 0 0 [.ref a, .int x2] sh S1 (gV sh (fun S3 => ∃ r4, S3.2.2 a 36 = some r4 ∧ ∃ n6, sh[r4]? = some (3, n6) ∧ vp_in p0 n6 ∧ ∃ r8, (aw_uI S3 r4 p0.toNatClampNeg (-1)).2.2 a 41 = some r8 ∧ ∃ n10, sh[r8]? = some (3, n10) ∧ vp_in p0 n10 ∧ P (aw_uI (aw_uI S3 r4 p0.toNatClampNeg (-1)) r8 p0.toNatClampNeg (-1))))))) : Sp l m_Md_beginsAt (d + 1) 0 0 [.ref a, .int p0] sh S (gV sh P) := by
  refine Sp.of k_Md_beginsAt (ls := [.ref a, .int p0]) rfl (Nat.le_of_ble_eq_true rfl) ?_
  refine r_aload_n (pc := 0) d_Md_beginsAt_0 (x := a) rfl ?_
  refine r_iload_n (pc := 1) d_Md_beginsAt_1 (x := p0) rfl ?_
  refine r_callS (pc := 2) (k := 0) (As := [.int p0]) (rest := [.ref a]) (mc' := 0) (ms' := 0) lk_Md_448 st_Md_levelAt d_Md_beginsAt_2 k_Md_levelAt rfl rfl (Nat.le_of_ble_eq_true rfl) (by decide) (by decide) (Sp.mono h ?_)
  rintro rS1 shS1 S1 ⟨qS1, x2, uS1, h⟩
  subst uS1
  rw [qS1]
  refine r_callV (pc := 5) (k := a) (As := [.int x2]) (rest := []) (mc' := 0) (ms' := 0) lk_Md_451 in_Md_keeps se_Md_keeps sa rfl d_Md_beginsAt_5 k_Md_keeps rfl rfl (Nat.le_of_ble_eq_true rfl) (by decide) (by decide) (Sp.mono h ?_)
  rintro rS3 shS3 S3 ⟨qS3, uS3, h⟩
  subst uS3
  rw [qS3]
  refine r_aload_n (pc := 8) d_Md_beginsAt_8 (x := a) rfl ?_
  obtain ⟨r4, er4, h⟩ := h
  refine r_getR (pc := 9) d_Md_beginsAt_9 f_Md_75 sa (Or.inr ⟨_, rfl⟩) (r := r4) er4 ?_
  refine r_iload_n (pc := 12) d_Md_beginsAt_12 (x := p0) rfl ?_
  refine r_iconst (pc := 13) d_Md_beginsAt_13 (v := (-1)) (by decide) ?_
  obtain ⟨n6, s5, h⟩ := h
  obtain ⟨g7, h⟩ := h
  refine r_iast (pc := 14) d_Md_beginsAt_14 s5 g7 ?_
  refine r_aload_n (pc := 15) d_Md_beginsAt_15 (x := a) rfl ?_
  obtain ⟨r8, er8, h⟩ := h
  refine r_getR (pc := 16) d_Md_beginsAt_16 f_Md_87 sa (Or.inr ⟨_, rfl⟩) (r := r8) er8 ?_
  refine r_iload_n (pc := 19) d_Md_beginsAt_19 (x := p0) rfl ?_
  refine r_iconst (pc := 20) d_Md_beginsAt_20 (v := (-1)) (by decide) ?_
  obtain ⟨n10, s9, h⟩ := h
  obtain ⟨g11, h⟩ := h
  refine r_iast (pc := 21) d_Md_beginsAt_21 s9 g11 ?_
  exact r_return (pc := 22) d_Md_beginsAt_22 rfl rfl (Nat.le_refl _) ⟨rfl, rfl, h⟩
set_option maxRecDepth 4000 in
theorem e_Md_settles {l : Launch} {d : Nat} {sh : aw_SH} {S : aw_S} {P : aw_S → Prop} {a : Nat} {p0 : Int32} {p1 : Int32} (sa : sh[a]? = some (0, 11)) (h : ∃ r1, S.2.2 a 41 = some r1 ∧ ∃ n3, sh[r1]? = some (3, n3) ∧ vp_in p0 n3 ∧ ((¬ (S.1 r1 p0.toNatClampNeg) = (-1) → ((¬ (p0 - p0 / (2 : Int32) * (2 : Int32)) = 0 → ∃ r8, S.2.2 a 40 = some r8 ∧ ∃ n10, sh[r8]? = some (3, n10) ∧ vp_in p0 n10 ∧ ((p1 < (S.1 r8 p0.toNatClampNeg) → vp_in p0 n10 ∧ ∃ r14, (aw_uI S r8 p0.toNatClampNeg p1).2.2 a 36 = some r14 ∧ ∃ n16, sh[r14]? = some (3, n16) ∧ vp_in p0 n16 ∧ vp_in p0 n3 ∧ P (aw_uI (aw_uI S r8 p0.toNatClampNeg p1) r1 p0.toNatClampNeg ((aw_uI S r8 p0.toNatClampNeg p1).1 r14 p0.toNatClampNeg))) ∧ (¬ p1 < (S.1 r8 p0.toNatClampNeg) → P S))) ∧ ((p0 - p0 / (2 : Int32) * (2 : Int32)) = 0 → ∃ r19, S.2.2 a 40 = some r19 ∧ ∃ n21, sh[r19]? = some (3, n21) ∧ vp_in p0 n21 ∧ (((S.1 r19 p0.toNatClampNeg) < p1 → vp_in p0 n21 ∧ ∃ r25, (aw_uI S r19 p0.toNatClampNeg p1).2.2 a 36 = some r25 ∧ ∃ n27, sh[r25]? = some (3, n27) ∧ vp_in p0 n27 ∧ vp_in p0 n3 ∧ P (aw_uI (aw_uI S r19 p0.toNatClampNeg p1) r1 p0.toNatClampNeg ((aw_uI S r19 p0.toNatClampNeg p1).1 r25 p0.toNatClampNeg))) ∧ (¬ (S.1 r19 p0.toNatClampNeg) < p1 → P S))))) ∧ ((S.1 r1 p0.toNatClampNeg) = (-1) → ∃ r31, S.2.2 a 40 = some r31 ∧ ∃ n33, sh[r31]? = some (3, n33) ∧ vp_in p0 n33 ∧ ∃ r35, (aw_uI S r31 p0.toNatClampNeg p1).2.2 a 36 = some r35 ∧ ∃ n37, sh[r35]? = some (3, n37) ∧ vp_in p0 n37 ∧ vp_in p0 n3 ∧ P (aw_uI (aw_uI S r31 p0.toNatClampNeg p1) r1 p0.toNatClampNeg ((aw_uI S r31 p0.toNatClampNeg p1).1 r35 p0.toNatClampNeg))))) : Sp l m_Md_settles (d + 1) 0 0 [.ref a, .int p0, .int p1] sh S (gV sh P) := by
  refine Sp.of k_Md_settles (ls := [.ref a, .int p0, .int p1, .null]) rfl (Nat.le_of_ble_eq_true rfl) ?_
  refine r_aload_n (pc := 0) d_Md_settles_0 (x := a) rfl ?_
  obtain ⟨r1, er1, h⟩ := h
  refine r_getR (pc := 1) d_Md_settles_1 f_Md_87 sa (Or.inr ⟨_, rfl⟩) (r := r1) er1 ?_
  refine r_iload_n (pc := 4) d_Md_settles_4 (x := p0) rfl ?_
  obtain ⟨n3, s2, h⟩ := h
  obtain ⟨g4, h⟩ := h
  refine r_iald (pc := 5) d_Md_settles_5 s2 g4 ?_
  refine r_iconst (pc := 6) d_Md_settles_6 (v := (-1)) (by decide) ?_
  refine r_icmp_ne (pc := 7) d_Md_settles_7 (tgt := 14) (by decide) (fun c5 => ?_) (fun c5 => ?_)
  · replace h := h.1 c5
    refine r_iconst (pc := 14) d_Md_settles_14 (v := 0) (by decide) ?_
    refine r_istore_n (pc := 15) (hk := rfl) (hd := d_Md_settles_15) (hi := by decide) (ls2 := [.ref a, .int p0, .int p1, .int 0]) (h2 := rfl) ?_
    refine r_iload_n (pc := 16) d_Md_settles_16 (x := 0) rfl ?_
    refine r_if_ne (pc := 17) d_Md_settles_17 (tgt := 50) (by decide) (fun q => absurd q (by decide)) (fun _ => ?_)
    refine r_iload_n (pc := 20) d_Md_settles_20 (x := p0) rfl ?_
    refine r_iconst (pc := 21) d_Md_settles_21 (v := 2) (by decide) ?_
    refine r_irem (pc := 22) d_Md_settles_22 (by decide) ?_
    refine r_if_ne (pc := 23) d_Md_settles_23 (tgt := 39) (by decide) (fun c7 => ?_) (fun c7 => ?_)
    · replace h := h.1 c7
      refine r_iload_n (pc := 39) d_Md_settles_39 (x := p1) rfl ?_
      refine r_aload_n (pc := 40) d_Md_settles_40 (x := a) rfl ?_
      obtain ⟨r8, er8, h⟩ := h
      refine r_getR (pc := 41) d_Md_settles_41 f_Md_84 sa (Or.inr ⟨_, rfl⟩) (r := r8) er8 ?_
      refine r_iload_n (pc := 44) d_Md_settles_44 (x := p0) rfl ?_
      obtain ⟨n10, s9, h⟩ := h
      obtain ⟨g11, h⟩ := h
      refine r_iald (pc := 45) d_Md_settles_45 s9 g11 ?_
      refine r_icmp_lt (pc := 46) d_Md_settles_46 (tgt := 50) (by decide) (fun c12 => ?_) (fun c12 => ?_)
      · replace h := h.1 c12
        refine r_aload_n (pc := 50) d_Md_settles_50 (x := a) rfl ?_
        refine r_getR (pc := 51) d_Md_settles_51 f_Md_84 sa (Or.inr ⟨_, rfl⟩) (r := r8) er8 ?_
        refine r_iload_n (pc := 54) d_Md_settles_54 (x := p0) rfl ?_
        refine r_iload_n (pc := 55) d_Md_settles_55 (x := p1) rfl ?_
        obtain ⟨g13, h⟩ := h
        refine r_iast (pc := 56) d_Md_settles_56 s9 g13 ?_
        refine r_aload_n (pc := 57) d_Md_settles_57 (x := a) rfl ?_
        refine r_getR (pc := 58) d_Md_settles_58 f_Md_87 sa (Or.inr ⟨_, rfl⟩) (r := r1) er1 ?_
        refine r_iload_n (pc := 61) d_Md_settles_61 (x := p0) rfl ?_
        refine r_aload_n (pc := 62) d_Md_settles_62 (x := a) rfl ?_
        obtain ⟨r14, er14, h⟩ := h
        refine r_getR (pc := 63) d_Md_settles_63 f_Md_75 sa (Or.inr ⟨_, rfl⟩) (r := r14) er14 ?_
        refine r_iload_n (pc := 66) d_Md_settles_66 (x := p0) rfl ?_
        obtain ⟨n16, s15, h⟩ := h
        obtain ⟨g17, h⟩ := h
        refine r_iald (pc := 67) d_Md_settles_67 s15 g17 ?_
        obtain ⟨g18, h⟩ := h
        refine r_iast (pc := 68) d_Md_settles_68 s2 g18 ?_
        exact r_return (pc := 69) d_Md_settles_69 rfl rfl (Nat.le_refl _) ⟨rfl, rfl, h⟩
      · replace h := h.2 c12
        exact r_return (pc := 49) d_Md_settles_49 rfl rfl (Nat.le_refl _) ⟨rfl, rfl, h⟩
    · replace h := h.2 c7
      refine r_iload_n (pc := 26) d_Md_settles_26 (x := p1) rfl ?_
      refine r_aload_n (pc := 27) d_Md_settles_27 (x := a) rfl ?_
      obtain ⟨r19, er19, h⟩ := h
      refine r_getR (pc := 28) d_Md_settles_28 f_Md_84 sa (Or.inr ⟨_, rfl⟩) (r := r19) er19 ?_
      refine r_iload_n (pc := 31) d_Md_settles_31 (x := p0) rfl ?_
      obtain ⟨n21, s20, h⟩ := h
      obtain ⟨g22, h⟩ := h
      refine r_iald (pc := 32) d_Md_settles_32 s20 g22 ?_
      refine r_icmp_gt (pc := 33) d_Md_settles_33 (tgt := 50) (by decide) (fun c23 => ?_) (fun c23 => ?_)
      · replace h := h.1 c23
        refine r_aload_n (pc := 50) d_Md_settles_50 (x := a) rfl ?_
        refine r_getR (pc := 51) d_Md_settles_51 f_Md_84 sa (Or.inr ⟨_, rfl⟩) (r := r19) er19 ?_
        refine r_iload_n (pc := 54) d_Md_settles_54 (x := p0) rfl ?_
        refine r_iload_n (pc := 55) d_Md_settles_55 (x := p1) rfl ?_
        obtain ⟨g24, h⟩ := h
        refine r_iast (pc := 56) d_Md_settles_56 s20 g24 ?_
        refine r_aload_n (pc := 57) d_Md_settles_57 (x := a) rfl ?_
        refine r_getR (pc := 58) d_Md_settles_58 f_Md_87 sa (Or.inr ⟨_, rfl⟩) (r := r1) er1 ?_
        refine r_iload_n (pc := 61) d_Md_settles_61 (x := p0) rfl ?_
        refine r_aload_n (pc := 62) d_Md_settles_62 (x := a) rfl ?_
        obtain ⟨r25, er25, h⟩ := h
        refine r_getR (pc := 63) d_Md_settles_63 f_Md_75 sa (Or.inr ⟨_, rfl⟩) (r := r25) er25 ?_
        refine r_iload_n (pc := 66) d_Md_settles_66 (x := p0) rfl ?_
        obtain ⟨n27, s26, h⟩ := h
        obtain ⟨g28, h⟩ := h
        refine r_iald (pc := 67) d_Md_settles_67 s26 g28 ?_
        obtain ⟨g29, h⟩ := h
        refine r_iast (pc := 68) d_Md_settles_68 s2 g29 ?_
        exact r_return (pc := 69) d_Md_settles_69 rfl rfl (Nat.le_refl _) ⟨rfl, rfl, h⟩
      · replace h := h.2 c23
        refine r_goto (pc := 36) d_Md_settles_36 (tgt := 49) (by decide) ?_
        exact r_return (pc := 49) d_Md_settles_49 rfl rfl (Nat.le_refl _) ⟨rfl, rfl, h⟩
  · replace h := h.2 c5
    refine r_iconst (pc := 10) d_Md_settles_10 (v := 1) (by decide) ?_
    refine r_goto (pc := 11) d_Md_settles_11 (tgt := 15) (by decide) ?_
    refine r_istore_n (pc := 15) (hk := rfl) (hd := d_Md_settles_15) (hi := by decide) (ls2 := [.ref a, .int p0, .int p1, .int 1]) (h2 := rfl) ?_
    refine r_iload_n (pc := 16) d_Md_settles_16 (x := 1) rfl ?_
    refine r_if_ne (pc := 17) d_Md_settles_17 (tgt := 50) (by decide) (fun _ => ?_) (fun q => absurd q (by decide))
    refine r_aload_n (pc := 50) d_Md_settles_50 (x := a) rfl ?_
    obtain ⟨r31, er31, h⟩ := h
    refine r_getR (pc := 51) d_Md_settles_51 f_Md_84 sa (Or.inr ⟨_, rfl⟩) (r := r31) er31 ?_
    refine r_iload_n (pc := 54) d_Md_settles_54 (x := p0) rfl ?_
    refine r_iload_n (pc := 55) d_Md_settles_55 (x := p1) rfl ?_
    obtain ⟨n33, s32, h⟩ := h
    obtain ⟨g34, h⟩ := h
    refine r_iast (pc := 56) d_Md_settles_56 s32 g34 ?_
    refine r_aload_n (pc := 57) d_Md_settles_57 (x := a) rfl ?_
    refine r_getR (pc := 58) d_Md_settles_58 f_Md_87 sa (Or.inr ⟨_, rfl⟩) (r := r1) er1 ?_
    refine r_iload_n (pc := 61) d_Md_settles_61 (x := p0) rfl ?_
    refine r_aload_n (pc := 62) d_Md_settles_62 (x := a) rfl ?_
    obtain ⟨r35, er35, h⟩ := h
    refine r_getR (pc := 63) d_Md_settles_63 f_Md_75 sa (Or.inr ⟨_, rfl⟩) (r := r35) er35 ?_
    refine r_iload_n (pc := 66) d_Md_settles_66 (x := p0) rfl ?_
    obtain ⟨n37, s36, h⟩ := h
    obtain ⟨g38, h⟩ := h
    refine r_iald (pc := 67) d_Md_settles_67 s36 g38 ?_
    obtain ⟨g39, h⟩ := h
    refine r_iast (pc := 68) d_Md_settles_68 s2 g39 ?_
    exact r_return (pc := 69) d_Md_settles_69 rfl rfl (Nat.le_refl _) ⟨rfl, rfl, h⟩
set_option maxRecDepth 4000 in
theorem e_Md_moveOf {l : Launch} {d : Nat} {sh : aw_SH} {S : aw_S} {P : Int32 → aw_S → Prop} {a : Nat} {p0 : Int32} (sa : sh[a]? = some (0, 11)) (h : Sp l m_Md_isFrom d 0 0 [.long p0.toInt64, .long 1, .long 3] sh S (gI sh (fun x2 S1 => ((¬ x2 = 0 → Sp l m_Md_playing d 0 0 [.ref a, .int p0] sh S1 (gI sh (fun x5 S4 => ∃ r6, S4.2.2 a 41 = some r6 ∧ ∃ n8, sh[r6]? = some (3, n8) ∧ vp_in 0 n8 ∧ Sp l m_Md_gapsOf d 0 0 [.ref a, .int 0] sh S4 (gI sh (fun x11 S10 => ((¬ (S4.1 r6 (0 : Int32).toNatClampNeg) = ((2 : Int32) * x11) → ∃ r13, S10.2.2 a 41 = some r13 ∧ ∃ n15, sh[r13]? = some (3, n15) ∧ vp_in 0 n15 ∧ Sp l m_Md_gives d 0 0 [.ref a, .int (S10.1 r13 (0 : Int32).toNatClampNeg)] sh S10 (gI sh (fun x18 S17 => P x18 S17))) ∧ ((S4.1 r6 (0 : Int32).toNatClampNeg) = ((2 : Int32) * x11) → Sp l m_Md_refuse d 0 0 [.ref a, .int 6] sh S10 (gI sh (fun x20 S19 => P x20 S19))))))))) ∧ (x2 = 0 → Sp l m_Md_refuse d 0 0 [.ref a, .int 1] sh S1 (gI sh (fun x22 S21 => P x22 S21))))))) : Sp l m_Md_moveOf (d + 1) 0 0 [.ref a, .int p0] sh S (gI sh P) := by
  refine Sp.of k_Md_moveOf (ls := [.ref a, .int p0]) rfl (Nat.le_of_ble_eq_true rfl) ?_
  refine r_iload_n (pc := 0) d_Md_moveOf_0 (x := p0) rfl ?_
  refine r_i2l (pc := 1) d_Md_moveOf_1 ?_
  refine r_lconst (pc := 2) d_Md_moveOf_2 (v := 1) (by decide) ?_
  refine r_ldc2 (pc := 3) d_Md_moveOf_3 cl_Md_472 ?_
  refine r_callS (pc := 6) (k := 0) (As := [.long p0.toInt64, .long 1, .long 3]) (rest := []) (mc' := 0) (ms' := 0) lk_Md_372 st_Md_isFrom d_Md_moveOf_6 k_Md_isFrom rfl rfl (Nat.le_of_ble_eq_true rfl) (by decide) (by decide) (Sp.mono h ?_)
  rintro rS1 shS1 S1 ⟨qS1, x2, uS1, h⟩
  subst uS1
  rw [qS1]
  refine r_if_ne (pc := 9) d_Md_moveOf_9 (tgt := 18) (by decide) (fun c3 => ?_) (fun c3 => ?_)
  · replace h := h.1 c3
    refine r_aload_n (pc := 18) d_Md_moveOf_18 (x := a) rfl ?_
    refine r_iload_n (pc := 19) d_Md_moveOf_19 (x := p0) rfl ?_
    refine r_callV (pc := 20) (k := a) (As := [.int p0]) (rest := []) (mc' := 0) (ms' := 0) lk_Md_474 in_Md_playing se_Md_playing sa rfl d_Md_moveOf_20 k_Md_playing rfl rfl (Nat.le_of_ble_eq_true rfl) (by decide) (by decide) (Sp.mono h ?_)
    rintro rS4 shS4 S4 ⟨qS4, x5, uS4, h⟩
    subst uS4
    rw [qS4]
    refine r_pop (pc := 23) d_Md_moveOf_23 rfl ?_
    refine r_aload_n (pc := 24) d_Md_moveOf_24 (x := a) rfl ?_
    obtain ⟨r6, er6, h⟩ := h
    refine r_getR (pc := 25) d_Md_moveOf_25 f_Md_87 sa (Or.inr ⟨_, rfl⟩) (r := r6) er6 ?_
    refine r_iconst (pc := 28) d_Md_moveOf_28 (v := 0) (by decide) ?_
    obtain ⟨n8, s7, h⟩ := h
    obtain ⟨g9, h⟩ := h
    refine r_iald (pc := 29) d_Md_moveOf_29 s7 g9 ?_
    refine r_iconst (pc := 30) d_Md_moveOf_30 (v := 2) (by decide) ?_
    refine r_aload_n (pc := 31) d_Md_moveOf_31 (x := a) rfl ?_
    refine r_iconst (pc := 32) d_Md_moveOf_32 (v := 0) (by decide) ?_
    refine r_callV (pc := 33) (k := a) (As := [.int 0]) (rest := [.int 2, .int (S4.1 r6 (0 : Int32).toNatClampNeg)]) (mc' := 0) (ms' := 0) lk_Md_260 in_Md_gapsOf se_Md_gapsOf sa rfl d_Md_moveOf_33 k_Md_gapsOf rfl rfl (Nat.le_of_ble_eq_true rfl) (by decide) (by decide) (Sp.mono h ?_)
    rintro rS10 shS10 S10 ⟨qS10, x11, uS10, h⟩
    subst uS10
    rw [qS10]
    refine r_imul (pc := 36) d_Md_moveOf_36 ?_
    refine r_icmp_ne (pc := 37) d_Md_moveOf_37 (tgt := 49) (by decide) (fun c12 => ?_) (fun c12 => ?_)
    · replace h := h.1 c12
      refine r_aload_n (pc := 49) d_Md_moveOf_49 (x := a) rfl ?_
      refine r_aload_n (pc := 50) d_Md_moveOf_50 (x := a) rfl ?_
      obtain ⟨r13, er13, h⟩ := h
      refine r_getR (pc := 51) d_Md_moveOf_51 f_Md_87 sa (Or.inr ⟨_, rfl⟩) (r := r13) er13 ?_
      refine r_iconst (pc := 54) d_Md_moveOf_54 (v := 0) (by decide) ?_
      obtain ⟨n15, s14, h⟩ := h
      obtain ⟨g16, h⟩ := h
      refine r_iald (pc := 55) d_Md_moveOf_55 s14 g16 ?_
      refine r_callV (pc := 56) (k := a) (As := [.int (S10.1 r13 (0 : Int32).toNatClampNeg)]) (rest := []) (mc' := 0) (ms' := 0) lk_Md_122 in_Md_gives se_Md_gives sa rfl d_Md_moveOf_56 k_Md_gives rfl rfl (Nat.le_of_ble_eq_true rfl) (by decide) (by decide) (Sp.mono h ?_)
      rintro rS17 shS17 S17 ⟨qS17, x18, uS17, h⟩
      subst uS17
      rw [qS17]
      exact r_ireturn (pc := 59) d_Md_moveOf_59 rfl rfl (Nat.le_refl _) ⟨rfl, _, rfl, h⟩
    · replace h := h.2 c12
      refine r_aload_n (pc := 40) d_Md_moveOf_40 (x := a) rfl ?_
      refine r_bipush (pc := 41) d_Md_moveOf_41 (v := 6) (by decide) ?_
      refine r_callV (pc := 43) (k := a) (As := [.int 6]) (rest := []) (mc' := 0) (ms' := 0) lk_Md_118 in_Md_refuse se_Md_refuse sa rfl d_Md_moveOf_43 k_Md_refuse rfl rfl (Nat.le_of_ble_eq_true rfl) (by decide) (by decide) (Sp.mono h ?_)
      rintro rS19 shS19 S19 ⟨qS19, x20, uS19, h⟩
      subst uS19
      rw [qS19]
      refine r_goto (pc := 46) d_Md_moveOf_46 (tgt := 59) (by decide) ?_
      exact r_ireturn (pc := 59) d_Md_moveOf_59 rfl rfl (Nat.le_refl _) ⟨rfl, _, rfl, h⟩
  · replace h := h.2 c3
    refine r_aload_n (pc := 12) d_Md_moveOf_12 (x := a) rfl ?_
    refine r_iconst (pc := 13) d_Md_moveOf_13 (v := 1) (by decide) ?_
    refine r_callV (pc := 14) (k := a) (As := [.int 1]) (rest := []) (mc' := 0) (ms' := 0) lk_Md_118 in_Md_refuse se_Md_refuse sa rfl d_Md_moveOf_14 k_Md_refuse rfl rfl (Nat.le_of_ble_eq_true rfl) (by decide) (by decide) (Sp.mono h ?_)
    rintro rS21 shS21 S21 ⟨qS21, x22, uS21, h⟩
    subst uS21
    rw [qS21]
    exact r_ireturn (pc := 17) d_Md_moveOf_17 rfl rfl (Nat.le_refl _) ⟨rfl, _, rfl, h⟩
set_option maxRecDepth 4000 in
theorem e_Md_slipped {l : Launch} {d : Nat} {sh : aw_SH} {S : aw_S} {P : Int32 → aw_S → Prop} {a : Nat} {p0 : Int32} {p1 : Int32} (sa : sh[a]? = some (0, 11)) (h : Sp l m_Md_isFrom d 0 0 [.long p0.toInt64, .long 0, .long 12] sh S (gI sh (fun x2 S1 => ((x2 = 0 → Sp l m_Md_is d 0 0 [.ref a, .int 1] sh S1 (gI sh (fun x5 S4 => ((x5 = 0 ∨ x5 = 1) ∧ P x5 S4)))) ∧ (¬ x2 = 0 → Sp l m_Md_isFrom d 0 0 [.long p1.toInt64, .long 0, .long 12] sh S1 (gI sh (fun x8 S7 => ((¬ x8 = 0 → AW l m_Md_slipped (d + 1) 0 0 (gI sh P) 0 0 35 [.ref a, .int p0, .int p1, .long 1, .null, .int 0, .null, .null] [] sh S7) ∧ (x8 = 0 → Sp l m_Md_is d 0 0 [.ref a, .int 1] sh S7 (gI sh (fun x11 S10 => ((x11 = 0 ∨ x11 = 1) ∧ P x11 S10)))))))))))) : Sp l m_Md_slipped (d + 1) 0 0 [.ref a, .int p0, .int p1] sh S (gI sh P) := by
  refine Sp.of k_Md_slipped (ls := [.ref a, .int p0, .int p1, .null, .null, .null, .null, .null]) rfl (Nat.le_of_ble_eq_true rfl) ?_
  refine r_iload_n (pc := 0) d_Md_slipped_0 (x := p0) rfl ?_
  refine r_i2l (pc := 1) d_Md_slipped_1 ?_
  refine r_lconst (pc := 2) d_Md_slipped_2 (v := 0) (by decide) ?_
  refine r_ldc2 (pc := 3) d_Md_slipped_3 cl_Md_477 ?_
  refine r_callS (pc := 6) (k := 0) (As := [.long p0.toInt64, .long 0, .long 12]) (rest := []) (mc' := 0) (ms' := 0) lk_Md_372 st_Md_isFrom d_Md_slipped_6 k_Md_isFrom rfl rfl (Nat.le_of_ble_eq_true rfl) (by decide) (by decide) (Sp.mono h ?_)
  rintro rS1 shS1 S1 ⟨qS1, x2, uS1, h⟩
  subst uS1
  rw [qS1]
  refine r_if_eq (pc := 9) d_Md_slipped_9 (tgt := 24) (by decide) (fun c3 => ?_) (fun c3 => ?_)
  · replace h := h.1 c3
    refine r_aload_n (pc := 24) d_Md_slipped_24 (x := a) rfl ?_
    refine r_iconst (pc := 25) d_Md_slipped_25 (v := 1) (by decide) ?_
    refine r_callV (pc := 26) (k := a) (As := [.int 1]) (rest := []) (mc' := 0) (ms' := 0) lk_Md_125 in_Md_is se_Md_is sa rfl d_Md_slipped_26 k_Md_is rfl rfl (Nat.le_of_ble_eq_true rfl) (by decide) (by decide) (Sp.mono h ?_)
    rintro rS4 shS4 S4 ⟨qS4, x5, uS4, h⟩
    subst uS4
    rw [qS4]
    obtain ⟨g6, h⟩ := h
    exact r_zreturn (pc := 29) d_Md_slipped_29 rfl (aw_nb g6) rfl (Nat.le_refl _) ⟨rfl, _, rfl, h⟩
  · replace h := h.2 c3
    refine r_iload_n (pc := 12) d_Md_slipped_12 (x := p1) rfl ?_
    refine r_i2l (pc := 13) d_Md_slipped_13 ?_
    refine r_lconst (pc := 14) d_Md_slipped_14 (v := 0) (by decide) ?_
    refine r_ldc2 (pc := 15) d_Md_slipped_15 cl_Md_477 ?_
    refine r_callS (pc := 18) (k := 0) (As := [.long p1.toInt64, .long 0, .long 12]) (rest := []) (mc' := 0) (ms' := 0) lk_Md_372 st_Md_isFrom d_Md_slipped_18 k_Md_isFrom rfl rfl (Nat.le_of_ble_eq_true rfl) (by decide) (by decide) (Sp.mono h ?_)
    rintro rS7 shS7 S7 ⟨qS7, x8, uS7, h⟩
    subst uS7
    rw [qS7]
    refine r_if_ne (pc := 21) d_Md_slipped_21 (tgt := 30) (by decide) (fun c9 => ?_) (fun c9 => ?_)
    · replace h := h.1 c9
      refine r_lconst (pc := 30) d_Md_slipped_30 (v := 1) (by decide) ?_
      refine r_lstore_n (pc := 31) (hk := rfl) (hd := d_Md_slipped_31) (hi := by decide) (ls2 := [.ref a, .int p0, .int p1, .long 1, .null, .null, .null, .null]) (h2 := rfl) ?_
      refine r_iconst (pc := 32) d_Md_slipped_32 (v := 0) (by decide) ?_
      refine r_istore (pc := 33) (hd := d_Md_slipped_33) (hi := by decide) (ls2 := [.ref a, .int p0, .int p1, .long 1, .null, .int 0, .null, .null]) (h2 := rfl) ?_
      exact h
    · replace h := h.2 c9
      refine r_aload_n (pc := 24) d_Md_slipped_24 (x := a) rfl ?_
      refine r_iconst (pc := 25) d_Md_slipped_25 (v := 1) (by decide) ?_
      refine r_callV (pc := 26) (k := a) (As := [.int 1]) (rest := []) (mc' := 0) (ms' := 0) lk_Md_125 in_Md_is se_Md_is sa rfl d_Md_slipped_26 k_Md_is rfl rfl (Nat.le_of_ble_eq_true rfl) (by decide) (by decide) (Sp.mono h ?_)
      rintro rS10 shS10 S10 ⟨qS10, x11, uS10, h⟩
      subst uS10
      rw [qS10]
      obtain ⟨g12, h⟩ := h
      exact r_zreturn (pc := 29) d_Md_slipped_29 rfl (aw_nb g12) rfl (Nat.le_refl _) ⟨rfl, _, rfl, h⟩
set_option maxRecDepth 4000 in
theorem s_Md_slipped_35 {l : Launch} {d : Nat} {sh : aw_SH} {S : aw_S} {P : Int32 → aw_S → Prop} {a : Nat} {i1 : Int32} {i2 : Int32} {i3 : Int64} {i5 : Int32} (sa : sh[a]? = some (0, 11)) (h : ((13 ≤ i5 → AW l m_Md_slipped (d + 1) 0 0 (gI sh P) 0 0 68 [.ref a, .int i1, .int i2, .long i3, .null, .int 0, .null, .null] [] sh S) ∧ (¬ 13 ≤ i5 → ∃ r2, S.2.2 a 42 = some r2 ∧ ((¬ i5 = 0 → ∃ n5, sh[r2]? = some (4, n5) ∧ vp_in i5 n5 ∧ AW l m_Md_slipped (d + 1) 0 0 (gI sh P) 0 0 35 [.ref a, .int i1, .int i2, .long i3, .null, .int (i5 + 1), .null, .null] [] sh (aw_uL S r2 i5.toNatClampNeg 0)) ∧ (i5 = 0 → ∃ n8, sh[r2]? = some (4, n8) ∧ vp_in i5 n8 ∧ AW l m_Md_slipped (d + 1) 0 0 (gI sh P) 0 0 35 [.ref a, .int i1, .int i2, .long i3, .null, .int (i5 + 1), .null, .null] [] sh (aw_uL S r2 i5.toNatClampNeg 1)))))) : AW l m_Md_slipped (d + 1) 0 0 (gI sh P) 0 0 35 [.ref a, .int i1, .int i2, .long i3, .null, .int i5, .null, .null] [] sh S := by
  refine r_iload (pc := 35) d_Md_slipped_35 (x := i5) rfl ?_
  refine r_bipush (pc := 37) d_Md_slipped_37 (v := 13) (by decide) ?_
  refine r_icmp_ge (pc := 39) d_Md_slipped_39 (tgt := 65) (by decide) (fun c1 => ?_) (fun c1 => ?_)
  · replace h := h.1 c1
    refine r_iconst (pc := 65) d_Md_slipped_65 (v := 0) (by decide) ?_
    refine r_istore (pc := 66) (hd := d_Md_slipped_66) (hi := by decide) (ls2 := [.ref a, .int i1, .int i2, .long i3, .null, .int 0, .null, .null]) (h2 := rfl) ?_
    exact h
  · replace h := h.2 c1
    refine r_aload_n (pc := 42) d_Md_slipped_42 (x := a) rfl ?_
    obtain ⟨r2, er2, h⟩ := h
    refine r_getR (pc := 43) d_Md_slipped_43 f_Md_90 sa (Or.inr ⟨_, rfl⟩) (r := r2) er2 ?_
    refine r_iload (pc := 46) d_Md_slipped_46 (x := i5) rfl ?_
    refine r_iload (pc := 48) d_Md_slipped_48 (x := i5) rfl ?_
    refine r_if_ne (pc := 50) d_Md_slipped_50 (tgt := 57) (by decide) (fun c3 => ?_) (fun c3 => ?_)
    · replace h := h.1 c3
      refine r_lconst (pc := 57) d_Md_slipped_57 (v := 0) (by decide) ?_
      obtain ⟨n5, s4, h⟩ := h
      obtain ⟨g6, h⟩ := h
      refine r_last (pc := 58) d_Md_slipped_58 s4 g6 ?_
      refine r_iinc (pc := 59) d_Md_slipped_59 (hi := by decide) (x := i5) rfl (v := i5 + 1) rfl (ls2 := [.ref a, .int i1, .int i2, .long i3, .null, .int (i5 + 1), .null, .null]) rfl ?_
      refine r_goto (pc := 62) d_Md_slipped_62 (tgt := 35) (by decide) ?_
      exact h
    · replace h := h.2 c3
      refine r_lconst (pc := 53) d_Md_slipped_53 (v := 1) (by decide) ?_
      refine r_goto (pc := 54) d_Md_slipped_54 (tgt := 58) (by decide) ?_
      obtain ⟨n8, s7, h⟩ := h
      obtain ⟨g9, h⟩ := h
      refine r_last (pc := 58) d_Md_slipped_58 s7 g9 ?_
      refine r_iinc (pc := 59) d_Md_slipped_59 (hi := by decide) (x := i5) rfl (v := i5 + 1) rfl (ls2 := [.ref a, .int i1, .int i2, .long i3, .null, .int (i5 + 1), .null, .null]) rfl ?_
      refine r_goto (pc := 62) d_Md_slipped_62 (tgt := 35) (by decide) ?_
      exact h
set_option maxRecDepth 4000 in
theorem s_Md_slipped_68 {l : Launch} {d : Nat} {sh : aw_SH} {S : aw_S} {P : Int32 → aw_S → Prop} {a : Nat} {i1 : Int32} {i2 : Int32} {i3 : Int64} {i5 : Int32} (sa : sh[a]? = some (0, 11)) (h : ((i1 ≤ i5 → AW l m_Md_slipped (d + 1) 0 0 (gI sh P) 0 0 159 [.ref a, .null, .null, .long i3, .null, .long 0, .null, .int i2] [] sh S) ∧ (¬ i1 ≤ i5 → AW l m_Md_slipped (d + 1) 0 0 (gI sh P) 0 0 78 [.ref a, .int i1, .int i2, .long i3, .null, .int i5, .int 12, .null] [] sh S))) : AW l m_Md_slipped (d + 1) 0 0 (gI sh P) 0 0 68 [.ref a, .int i1, .int i2, .long i3, .null, .int i5, .null, .null] [] sh S := by
  refine r_iload (pc := 68) d_Md_slipped_68 (x := i5) rfl ?_
  refine r_iload_n (pc := 70) d_Md_slipped_70 (x := i1) rfl ?_
  refine r_icmp_ge (pc := 71) d_Md_slipped_71 (tgt := 153) (by decide) (fun c1 => ?_) (fun c1 => ?_)
  · replace h := h.1 c1
    refine r_lconst (pc := 153) d_Md_slipped_153 (v := 0) (by decide) ?_
    refine r_lstore (pc := 154) (hd := d_Md_slipped_154) (hi := by decide) (ls2 := [.ref a, .int i1, .int i2, .long i3, .null, .long 0, .null, .null]) (h2 := rfl) ?_
    refine r_iload_n (pc := 156) d_Md_slipped_156 (x := i2) rfl ?_
    refine r_istore (pc := 157) (hd := d_Md_slipped_157) (hi := by decide) (ls2 := [.ref a, .int i1, .int i2, .long i3, .null, .long 0, .null, .int i2]) (h2 := rfl) ?_
    exact r_weak (ls2 := [.ref a, .null, .null, .long i3, .null, .long 0, .null, .int i2]) ⟨Or.inr rfl, Or.inl rfl, Or.inl rfl, Or.inr rfl, Or.inl rfl, Or.inr rfl, Or.inl rfl, Or.inr rfl, trivial⟩ h
  · replace h := h.2 c1
    refine r_bipush (pc := 74) d_Md_slipped_74 (v := 12) (by decide) ?_
    refine r_istore (pc := 76) (hd := d_Md_slipped_76) (hi := by decide) (ls2 := [.ref a, .int i1, .int i2, .long i3, .null, .int i5, .int 12, .null]) (h2 := rfl) ?_
    exact h
set_option maxRecDepth 4000 in
theorem s_Md_slipped_159 {l : Launch} {d : Nat} {sh : aw_SH} {S : aw_S} {P : Int32 → aw_S → Prop} {a : Nat} {i3 : Int64} {i5 : Int64} {i7 : Int32} (sa : sh[a]? = some (0, 11)) (h : ((13 ≤ i7 → Sp l m_Md_tellsBy d 0 0 [.ref a, .long i5, .long i3] sh S (gI sh (fun x3 S2 => ((x3 = 0 ∨ x3 = 1) ∧ P x3 S2)))) ∧ (¬ 13 ≤ i7 → ∃ r5, S.2.2 a 42 = some r5 ∧ ∃ n7, sh[r5]? = some (4, n7) ∧ vp_in i7 n7 ∧ AW l m_Md_slipped (d + 1) 0 0 (gI sh P) 0 0 159 [.ref a, .null, .null, .long i3, .null, .long (i5 + (S.2.1 r5 i7.toNatClampNeg)), .null, .int (i7 + 1)] [] sh S))) : AW l m_Md_slipped (d + 1) 0 0 (gI sh P) 0 0 159 [.ref a, .null, .null, .long i3, .null, .long i5, .null, .int i7] [] sh S := by
  refine r_iload (pc := 159) d_Md_slipped_159 (x := i7) rfl ?_
  refine r_bipush (pc := 161) d_Md_slipped_161 (v := 13) (by decide) ?_
  refine r_icmp_ge (pc := 163) d_Md_slipped_163 (tgt := 184) (by decide) (fun c1 => ?_) (fun c1 => ?_)
  · replace h := h.1 c1
    refine r_aload_n (pc := 184) d_Md_slipped_184 (x := a) rfl ?_
    refine r_lload (pc := 185) d_Md_slipped_185 (x := i5) rfl ?_
    refine r_lload_n (pc := 187) d_Md_slipped_187 (x := i3) rfl ?_
    refine r_callV (pc := 188) (k := a) (As := [.long i5, .long i3]) (rest := []) (mc' := 0) (ms' := 0) lk_Md_479 in_Md_tellsBy se_Md_tellsBy sa rfl d_Md_slipped_188 k_Md_tellsBy rfl rfl (Nat.le_of_ble_eq_true rfl) (by decide) (by decide) (Sp.mono h ?_)
    rintro rS2 shS2 S2 ⟨qS2, x3, uS2, h⟩
    subst uS2
    rw [qS2]
    obtain ⟨g4, h⟩ := h
    exact r_zreturn (pc := 191) d_Md_slipped_191 rfl (aw_nb g4) rfl (Nat.le_refl _) ⟨rfl, _, rfl, h⟩
  · replace h := h.2 c1
    refine r_lload (pc := 166) d_Md_slipped_166 (x := i5) rfl ?_
    refine r_aload_n (pc := 168) d_Md_slipped_168 (x := a) rfl ?_
    obtain ⟨r5, er5, h⟩ := h
    refine r_getR (pc := 169) d_Md_slipped_169 f_Md_90 sa (Or.inr ⟨_, rfl⟩) (r := r5) er5 ?_
    refine r_iload (pc := 172) d_Md_slipped_172 (x := i7) rfl ?_
    obtain ⟨n7, s6, h⟩ := h
    obtain ⟨g8, h⟩ := h
    refine r_lald (pc := 174) d_Md_slipped_174 s6 g8 ?_
    refine r_ladd (pc := 175) d_Md_slipped_175 ?_
    refine r_lstore (pc := 176) (hd := d_Md_slipped_176) (hi := by decide) (ls2 := [.ref a, .null, .null, .long i3, .null, .long (i5 + (S.2.1 r5 i7.toNatClampNeg)), .null, .int i7]) (h2 := rfl) ?_
    refine r_iinc (pc := 178) d_Md_slipped_178 (hi := by decide) (x := i7) rfl (v := i7 + 1) rfl (ls2 := [.ref a, .null, .null, .long i3, .null, .long (i5 + (S.2.1 r5 i7.toNatClampNeg)), .null, .int (i7 + 1)]) rfl ?_
    refine r_goto (pc := 181) d_Md_slipped_181 (tgt := 159) (by decide) ?_
    exact h
set_option maxRecDepth 4000 in
theorem s_Md_slipped_78 {l : Launch} {d : Nat} {sh : aw_SH} {S : aw_S} {P : Int32 → aw_S → Prop} {a : Nat} {i1 : Int32} {i2 : Int32} {i3 : Int64} {i5 : Int32} {i6 : Int32} (sa : sh[a]? = some (0, 11)) (h : ((i6 < 0 → AW l m_Md_slipped (d + 1) 0 0 (gI sh P) 0 0 68 [.ref a, .int i1, .int i2, .long (i3 * (16 : Int64)), .null, .int (i5 + 1), .null, .null] [] sh S) ∧ (¬ i6 < 0 → ∃ r2, S.2.2 a 42 = some r2 ∧ ∃ n4, sh[r2]? = some (4, n4) ∧ vp_in i6 n4 ∧ ∃ r6, S.2.2 a 0 = some r6 ∧ ∃ n8, sh[r6]? = some (3, n8) ∧ vp_in 1 n8 ∧ ((¬ i6 = 0 → vp_in (i6 - (1 : Int32)) n4 ∧ vp_in 1 n8 ∧ vp_in i6 n4 ∧ AW l m_Md_slipped (d + 1) 0 0 (gI sh P) 0 0 78 [.ref a, .int i1, .int i2, .long i3, .null, .int i5, .int (i6 + (-1)), .null] [] sh (aw_uL S r2 i6.toNatClampNeg (((S.2.1 r2 i6.toNatClampNeg) * (((16 : Int32) - (S.1 r6 (1 : Int32).toNatClampNeg)).toInt64)) + ((S.2.1 r2 (i6 - (1 : Int32) : Int32).toNatClampNeg) * ((S.1 r6 (1 : Int32).toNatClampNeg).toInt64))))) ∧ (i6 = 0 → vp_in i6 n4 ∧ AW l m_Md_slipped (d + 1) 0 0 (gI sh P) 0 0 78 [.ref a, .int i1, .int i2, .long i3, .null, .int i5, .int (i6 + (-1)), .null] [] sh (aw_uL S r2 i6.toNatClampNeg (((S.2.1 r2 i6.toNatClampNeg) * (((16 : Int32) - (S.1 r6 (1 : Int32).toNatClampNeg)).toInt64)) + (0 : Int64)))))))) : AW l m_Md_slipped (d + 1) 0 0 (gI sh P) 0 0 78 [.ref a, .int i1, .int i2, .long i3, .null, .int i5, .int i6, .null] [] sh S := by
  refine r_iload (pc := 78) d_Md_slipped_78 (x := i6) rfl ?_
  refine r_if_lt (pc := 80) d_Md_slipped_80 (tgt := 141) (by decide) (fun c1 => ?_) (fun c1 => ?_)
  · replace h := h.1 c1
    refine r_lload_n (pc := 141) d_Md_slipped_141 (x := i3) rfl ?_
    refine r_ldc2 (pc := 142) d_Md_slipped_142 cl_Md_382 ?_
    refine r_lmul (pc := 145) d_Md_slipped_145 ?_
    refine r_lstore_n (pc := 146) (hk := rfl) (hd := d_Md_slipped_146) (hi := by decide) (ls2 := [.ref a, .int i1, .int i2, .long (i3 * (16 : Int64)), .null, .int i5, .int i6, .null]) (h2 := rfl) ?_
    refine r_iinc (pc := 147) d_Md_slipped_147 (hi := by decide) (x := i5) rfl (v := i5 + 1) rfl (ls2 := [.ref a, .int i1, .int i2, .long (i3 * (16 : Int64)), .null, .int (i5 + 1), .int i6, .null]) rfl ?_
    refine r_goto (pc := 150) d_Md_slipped_150 (tgt := 68) (by decide) ?_
    exact r_weak (ls2 := [.ref a, .int i1, .int i2, .long (i3 * (16 : Int64)), .null, .int (i5 + 1), .null, .null]) ⟨Or.inr rfl, Or.inr rfl, Or.inr rfl, Or.inr rfl, Or.inl rfl, Or.inr rfl, Or.inl rfl, Or.inl rfl, trivial⟩ h
  · replace h := h.2 c1
    refine r_aload_n (pc := 83) d_Md_slipped_83 (x := a) rfl ?_
    obtain ⟨r2, er2, h⟩ := h
    refine r_getR (pc := 84) d_Md_slipped_84 f_Md_90 sa (Or.inr ⟨_, rfl⟩) (r := r2) er2 ?_
    refine r_iload (pc := 87) d_Md_slipped_87 (x := i6) rfl ?_
    refine r_aload_n (pc := 89) d_Md_slipped_89 (x := a) rfl ?_
    refine r_getR (pc := 90) d_Md_slipped_90 f_Md_90 sa (Or.inr ⟨_, rfl⟩) (r := r2) er2 ?_
    refine r_iload (pc := 93) d_Md_slipped_93 (x := i6) rfl ?_
    obtain ⟨n4, s3, h⟩ := h
    obtain ⟨g5, h⟩ := h
    refine r_lald (pc := 95) d_Md_slipped_95 s3 g5 ?_
    refine r_bipush (pc := 96) d_Md_slipped_96 (v := 16) (by decide) ?_
    refine r_aload_n (pc := 98) d_Md_slipped_98 (x := a) rfl ?_
    obtain ⟨r6, er6, h⟩ := h
    refine r_getR (pc := 99) d_Md_slipped_99 f_Md_7 sa (Or.inr ⟨_, rfl⟩) (r := r6) er6 ?_
    refine r_iconst (pc := 102) d_Md_slipped_102 (v := 1) (by decide) ?_
    obtain ⟨n8, s7, h⟩ := h
    obtain ⟨g9, h⟩ := h
    refine r_iald (pc := 103) d_Md_slipped_103 s7 g9 ?_
    refine r_isub (pc := 104) d_Md_slipped_104 ?_
    refine r_i2l (pc := 105) d_Md_slipped_105 ?_
    refine r_lmul (pc := 106) d_Md_slipped_106 ?_
    refine r_iload (pc := 107) d_Md_slipped_107 (x := i6) rfl ?_
    refine r_if_ne (pc := 109) d_Md_slipped_109 (tgt := 116) (by decide) (fun c10 => ?_) (fun c10 => ?_)
    · replace h := h.1 c10
      refine r_aload_n (pc := 116) d_Md_slipped_116 (x := a) rfl ?_
      refine r_getR (pc := 117) d_Md_slipped_117 f_Md_90 sa (Or.inr ⟨_, rfl⟩) (r := r2) er2 ?_
      refine r_iload (pc := 120) d_Md_slipped_120 (x := i6) rfl ?_
      refine r_iconst (pc := 122) d_Md_slipped_122 (v := 1) (by decide) ?_
      refine r_isub (pc := 123) d_Md_slipped_123 ?_
      obtain ⟨g11, h⟩ := h
      refine r_lald (pc := 124) d_Md_slipped_124 s3 g11 ?_
      refine r_aload_n (pc := 125) d_Md_slipped_125 (x := a) rfl ?_
      refine r_getR (pc := 126) d_Md_slipped_126 f_Md_7 sa (Or.inr ⟨_, rfl⟩) (r := r6) er6 ?_
      refine r_iconst (pc := 129) d_Md_slipped_129 (v := 1) (by decide) ?_
      obtain ⟨g12, h⟩ := h
      refine r_iald (pc := 130) d_Md_slipped_130 s7 g12 ?_
      refine r_i2l (pc := 131) d_Md_slipped_131 ?_
      refine r_lmul (pc := 132) d_Md_slipped_132 ?_
      refine r_ladd (pc := 133) d_Md_slipped_133 ?_
      obtain ⟨g13, h⟩ := h
      refine r_last (pc := 134) d_Md_slipped_134 s3 g13 ?_
      refine r_iinc (pc := 135) d_Md_slipped_135 (hi := by decide) (x := i6) rfl (v := i6 + (-1)) rfl (ls2 := [.ref a, .int i1, .int i2, .long i3, .null, .int i5, .int (i6 + (-1)), .null]) rfl ?_
      refine r_goto (pc := 138) d_Md_slipped_138 (tgt := 78) (by decide) ?_
      exact h
    · replace h := h.2 c10
      refine r_lconst (pc := 112) d_Md_slipped_112 (v := 0) (by decide) ?_
      refine r_goto (pc := 113) d_Md_slipped_113 (tgt := 133) (by decide) ?_
      refine r_ladd (pc := 133) d_Md_slipped_133 ?_
      obtain ⟨g14, h⟩ := h
      refine r_last (pc := 134) d_Md_slipped_134 s3 g14 ?_
      refine r_iinc (pc := 135) d_Md_slipped_135 (hi := by decide) (x := i6) rfl (v := i6 + (-1)) rfl (ls2 := [.ref a, .int i1, .int i2, .long i3, .null, .int i5, .int (i6 + (-1)), .null]) rfl ?_
      refine r_goto (pc := 138) d_Md_slipped_138 (tgt := 78) (by decide) ?_
      exact h
set_option maxRecDepth 4000 in
theorem e_Md_tellsBy {l : Launch} {d : Nat} {sh : aw_SH} {S : aw_S} {P : Int32 → aw_S → Prop} {a : Nat} {p0 : Int64} {p1 : Int64} (sa : sh[a]? = some (0, 11)) (h : AW l m_Md_tellsBy (d + 1) 0 0 (gI sh P) 0 0 6 [.ref a, .long p0, .null, .long p1, .null, .long p0, .null, .long p1, .null, .null, .null] [] sh S) : Sp l m_Md_tellsBy (d + 1) 0 0 [.ref a, .long p0, .long p1] sh S (gI sh P) := by
  refine Sp.of k_Md_tellsBy (ls := [.ref a, .long p0, .null, .long p1, .null, .null, .null, .null, .null, .null, .null]) rfl (Nat.le_of_ble_eq_true rfl) ?_
  refine r_lload_n (pc := 0) d_Md_tellsBy_0 (x := p0) rfl ?_
  refine r_lstore (pc := 1) (hd := d_Md_tellsBy_1) (hi := by decide) (ls2 := [.ref a, .long p0, .null, .long p1, .null, .long p0, .null, .null, .null, .null, .null]) (h2 := rfl) ?_
  refine r_lload_n (pc := 3) d_Md_tellsBy_3 (x := p1) rfl ?_
  refine r_lstore (pc := 4) (hd := d_Md_tellsBy_4) (hi := by decide) (ls2 := [.ref a, .long p0, .null, .long p1, .null, .long p0, .null, .long p1, .null, .null, .null]) (h2 := rfl) ?_
  exact h
set_option maxRecDepth 4000 in
theorem s_Md_tellsBy_6 {l : Launch} {d : Nat} {sh : aw_SH} {S : aw_S} {P : Int32 → aw_S → Prop} {a : Nat} {i1 : Int64} {i3 : Int64} {i5 : Int64} {i7 : Int64} (sa : sh[a]? = some (0, 11)) (h : (((lg_cmp i7 0) = 0 → ¬ i5 = 0 ∧ ¬ i5 = 0 ∧ Sp l m_Md_is d 0 0 [.ref a, .int 0] sh (aw_uL (aw_uL S a 3 (i1 / i5)) a 4 (i3 / i5)) (gI sh (fun x3 S2 => ((x3 = 0 ∨ x3 = 1) ∧ P x3 S2)))) ∧ (¬ (lg_cmp i7 0) = 0 → ¬ i7 = 0 ∧ AW l m_Md_tellsBy (d + 1) 0 0 (gI sh P) 0 0 6 [.ref a, .long i1, .null, .long i3, .null, .long i7, .null, .long (i5 - i5 / i7 * i7), .null, .null, .null] [] sh S))) : AW l m_Md_tellsBy (d + 1) 0 0 (gI sh P) 0 0 6 [.ref a, .long i1, .null, .long i3, .null, .long i5, .null, .long i7, .null, .null, .null] [] sh S := by
  refine r_lload (pc := 6) d_Md_tellsBy_6 (x := i7) rfl ?_
  refine r_lconst (pc := 8) d_Md_tellsBy_8 (v := 0) (by decide) ?_
  refine r_lcmp (pc := 9) d_Md_tellsBy_9 ?_
  refine r_if_eq (pc := 10) d_Md_tellsBy_10 (tgt := 31) (by decide) (fun c1 => ?_) (fun c1 => ?_)
  · replace h := h.1 c1
    refine r_aload_n (pc := 31) d_Md_tellsBy_31 (x := a) rfl ?_
    refine r_lload_n (pc := 32) d_Md_tellsBy_32 (x := i1) rfl ?_
    refine r_lload (pc := 33) d_Md_tellsBy_33 (x := i5) rfl ?_
    obtain ⟨g6, h⟩ := h
    refine r_ldiv (pc := 35) d_Md_tellsBy_35 g6 ?_
    refine r_putL (pc := 36) d_Md_tellsBy_36 f_Md_115 sa rfl ?_
    refine r_aload_n (pc := 39) d_Md_tellsBy_39 (x := a) rfl ?_
    refine r_lload_n (pc := 40) d_Md_tellsBy_40 (x := i3) rfl ?_
    refine r_lload (pc := 41) d_Md_tellsBy_41 (x := i5) rfl ?_
    obtain ⟨g5, h⟩ := h
    refine r_ldiv (pc := 43) d_Md_tellsBy_43 g5 ?_
    refine r_putL (pc := 44) d_Md_tellsBy_44 f_Md_17 sa rfl ?_
    refine r_aload_n (pc := 47) d_Md_tellsBy_47 (x := a) rfl ?_
    refine r_iconst (pc := 48) d_Md_tellsBy_48 (v := 0) (by decide) ?_
    refine r_callV (pc := 49) (k := a) (As := [.int 0]) (rest := []) (mc' := 0) (ms' := 0) lk_Md_125 in_Md_is se_Md_is sa rfl d_Md_tellsBy_49 k_Md_is rfl rfl (Nat.le_of_ble_eq_true rfl) (by decide) (by decide) (Sp.mono h ?_)
    rintro rS2 shS2 S2 ⟨qS2, x3, uS2, h⟩
    subst uS2
    rw [qS2]
    obtain ⟨g4, h⟩ := h
    exact r_zreturn (pc := 52) d_Md_tellsBy_52 rfl (aw_nb g4) rfl (Nat.le_refl _) ⟨rfl, _, rfl, h⟩
  · replace h := h.2 c1
    refine r_lload (pc := 13) d_Md_tellsBy_13 (x := i5) rfl ?_
    refine r_lload (pc := 15) d_Md_tellsBy_15 (x := i7) rfl ?_
    obtain ⟨g7, h⟩ := h
    refine r_lrem (pc := 17) d_Md_tellsBy_17 g7 ?_
    refine r_lstore (pc := 18) (hd := d_Md_tellsBy_18) (hi := by decide) (ls2 := [.ref a, .long i1, .null, .long i3, .null, .long i5, .null, .long i7, .null, .long (i5 - i5 / i7 * i7), .null]) (h2 := rfl) ?_
    refine r_lload (pc := 20) d_Md_tellsBy_20 (x := i7) rfl ?_
    refine r_lstore (pc := 22) (hd := d_Md_tellsBy_22) (hi := by decide) (ls2 := [.ref a, .long i1, .null, .long i3, .null, .long i7, .null, .long i7, .null, .long (i5 - i5 / i7 * i7), .null]) (h2 := rfl) ?_
    refine r_lload (pc := 24) d_Md_tellsBy_24 (x := (i5 - i5 / i7 * i7)) rfl ?_
    refine r_lstore (pc := 26) (hd := d_Md_tellsBy_26) (hi := by decide) (ls2 := [.ref a, .long i1, .null, .long i3, .null, .long i7, .null, .long (i5 - i5 / i7 * i7), .null, .long (i5 - i5 / i7 * i7), .null]) (h2 := rfl) ?_
    refine r_goto (pc := 28) d_Md_tellsBy_28 (tgt := 6) (by decide) ?_
    exact r_weak (ls2 := [.ref a, .long i1, .null, .long i3, .null, .long i7, .null, .long (i5 - i5 / i7 * i7), .null, .null, .null]) ⟨Or.inr rfl, Or.inr rfl, Or.inl rfl, Or.inr rfl, Or.inl rfl, Or.inr rfl, Or.inl rfl, Or.inr rfl, Or.inl rfl, Or.inl rfl, Or.inl rfl, trivial⟩ h
set_option maxRecDepth 4000 in
theorem e_Md_drift {l : Launch} {d : Nat} {sh : aw_SH} {S : aw_S} {P : Int32 → aw_S → Prop} {a : Nat} {p0 : Int32} {p1 : Int32} {p2 : Int32} (sa : sh[a]? = some (0, 11)) (h : Sp l m_Md_isDancer d 0 0 [.ref a, .int p0] sh S (gI sh (fun x2 S1 => ((x2 = 0 → Sp l m_Md_is d 0 0 [.ref a, .int 1] sh S1 (gI sh (fun x5 S4 => ((x5 = 0 ∨ x5 = 1) ∧ P x5 S4)))) ∧ (¬ x2 = 0 → Sp l m_Md_isDancer d 0 0 [.ref a, .int p1] sh S1 (gI sh (fun x8 S7 => ((x8 = 0 → Sp l m_Md_is d 0 0 [.ref a, .int 1] sh S7 (gI sh (fun x11 S10 => ((x11 = 0 ∨ x11 = 1) ∧ P x11 S10)))) ∧ (¬ x8 = 0 → Sp l m_Md_isFrom d 0 0 [.long p2.toInt64, .long 0, .long 5] sh S7 (gI sh (fun x14 S13 => ((¬ x14 = 0 → ((p2 ≤ 0 → ∃ r17, S13.2.2 a 0 = some r17 ∧ ∃ n19, sh[r17]? = some (3, n19) ∧ vp_in 0 n19 ∧ AW l m_Md_drift (d + 1) 0 0 (gI sh P) 0 0 67 [.ref a, .int p0, .int p1, .int p2, .int (S13.1 r17 (0 : Int32).toNatClampNeg), .long 1, .null, .int 0, .null, .null, .null] [] sh S13) ∧ (¬ p2 ≤ 0 → Sp l m_Md_gapsOf d 0 0 [.ref a, .int 0] sh S13 (gI sh (fun x22 S21 => ((¬ x22 = 0 → ∃ r24, S21.2.2 a 0 = some r24 ∧ ∃ n26, sh[r24]? = some (3, n26) ∧ vp_in 0 n26 ∧ AW l m_Md_drift (d + 1) 0 0 (gI sh P) 0 0 67 [.ref a, .int p0, .int p1, .int p2, .int (S21.1 r24 (0 : Int32).toNatClampNeg), .long 1, .null, .int 0, .null, .null, .null] [] sh S21) ∧ (x22 = 0 → Sp l m_Md_is d 0 0 [.ref a, .int 6] sh S21 (gI sh (fun x29 S28 => ((x29 = 0 ∨ x29 = 1) ∧ P x29 S28)))))))))) ∧ (x14 = 0 → Sp l m_Md_is d 0 0 [.ref a, .int 1] sh S13 (gI sh (fun x32 S31 => ((x32 = 0 ∨ x32 = 1) ∧ P x32 S31)))))))))))))))) : Sp l m_Md_drift (d + 1) 0 0 [.ref a, .int p0, .int p1, .int p2] sh S (gI sh P) := by
  refine Sp.of k_Md_drift (ls := [.ref a, .int p0, .int p1, .int p2, .null, .null, .null, .null, .null, .null, .null]) rfl (Nat.le_of_ble_eq_true rfl) ?_
  refine r_aload_n (pc := 0) d_Md_drift_0 (x := a) rfl ?_
  refine r_iload_n (pc := 1) d_Md_drift_1 (x := p0) rfl ?_
  refine r_callV (pc := 2) (k := a) (As := [.int p0]) (rest := []) (mc' := 0) (ms' := 0) lk_Md_313 in_Md_isDancer se_Md_isDancer sa rfl d_Md_drift_2 k_Md_isDancer rfl rfl (Nat.le_of_ble_eq_true rfl) (by decide) (by decide) (Sp.mono h ?_)
  rintro rS1 shS1 S1 ⟨qS1, x2, uS1, h⟩
  subst uS1
  rw [qS1]
  refine r_if_eq (pc := 5) d_Md_drift_5 (tgt := 28) (by decide) (fun c3 => ?_) (fun c3 => ?_)
  · replace h := h.1 c3
    refine r_aload_n (pc := 28) d_Md_drift_28 (x := a) rfl ?_
    refine r_iconst (pc := 29) d_Md_drift_29 (v := 1) (by decide) ?_
    refine r_callV (pc := 30) (k := a) (As := [.int 1]) (rest := []) (mc' := 0) (ms' := 0) lk_Md_125 in_Md_is se_Md_is sa rfl d_Md_drift_30 k_Md_is rfl rfl (Nat.le_of_ble_eq_true rfl) (by decide) (by decide) (Sp.mono h ?_)
    rintro rS4 shS4 S4 ⟨qS4, x5, uS4, h⟩
    subst uS4
    rw [qS4]
    obtain ⟨g6, h⟩ := h
    exact r_zreturn (pc := 33) d_Md_drift_33 rfl (aw_nb g6) rfl (Nat.le_refl _) ⟨rfl, _, rfl, h⟩
  · replace h := h.2 c3
    refine r_aload_n (pc := 8) d_Md_drift_8 (x := a) rfl ?_
    refine r_iload_n (pc := 9) d_Md_drift_9 (x := p1) rfl ?_
    refine r_callV (pc := 10) (k := a) (As := [.int p1]) (rest := []) (mc' := 0) (ms' := 0) lk_Md_313 in_Md_isDancer se_Md_isDancer sa rfl d_Md_drift_10 k_Md_isDancer rfl rfl (Nat.le_of_ble_eq_true rfl) (by decide) (by decide) (Sp.mono h ?_)
    rintro rS7 shS7 S7 ⟨qS7, x8, uS7, h⟩
    subst uS7
    rw [qS7]
    refine r_if_eq (pc := 13) d_Md_drift_13 (tgt := 28) (by decide) (fun c9 => ?_) (fun c9 => ?_)
    · replace h := h.1 c9
      refine r_aload_n (pc := 28) d_Md_drift_28 (x := a) rfl ?_
      refine r_iconst (pc := 29) d_Md_drift_29 (v := 1) (by decide) ?_
      refine r_callV (pc := 30) (k := a) (As := [.int 1]) (rest := []) (mc' := 0) (ms' := 0) lk_Md_125 in_Md_is se_Md_is sa rfl d_Md_drift_30 k_Md_is rfl rfl (Nat.le_of_ble_eq_true rfl) (by decide) (by decide) (Sp.mono h ?_)
      rintro rS10 shS10 S10 ⟨qS10, x11, uS10, h⟩
      subst uS10
      rw [qS10]
      obtain ⟨g12, h⟩ := h
      exact r_zreturn (pc := 33) d_Md_drift_33 rfl (aw_nb g12) rfl (Nat.le_refl _) ⟨rfl, _, rfl, h⟩
    · replace h := h.2 c9
      refine r_iload_n (pc := 16) d_Md_drift_16 (x := p2) rfl ?_
      refine r_i2l (pc := 17) d_Md_drift_17 ?_
      refine r_lconst (pc := 18) d_Md_drift_18 (v := 0) (by decide) ?_
      refine r_ldc2 (pc := 19) d_Md_drift_19 cl_Md_370 ?_
      refine r_callS (pc := 22) (k := 0) (As := [.long p2.toInt64, .long 0, .long 5]) (rest := []) (mc' := 0) (ms' := 0) lk_Md_372 st_Md_isFrom d_Md_drift_22 k_Md_isFrom rfl rfl (Nat.le_of_ble_eq_true rfl) (by decide) (by decide) (Sp.mono h ?_)
      rintro rS13 shS13 S13 ⟨qS13, x14, uS13, h⟩
      subst uS13
      rw [qS13]
      refine r_if_ne (pc := 25) d_Md_drift_25 (tgt := 34) (by decide) (fun c15 => ?_) (fun c15 => ?_)
      · replace h := h.1 c15
        refine r_iload_n (pc := 34) d_Md_drift_34 (x := p2) rfl ?_
        refine r_if_le (pc := 35) d_Md_drift_35 (tgt := 53) (by decide) (fun c16 => ?_) (fun c16 => ?_)
        · replace h := h.1 c16
          refine r_aload_n (pc := 53) d_Md_drift_53 (x := a) rfl ?_
          obtain ⟨r17, er17, h⟩ := h
          refine r_getR (pc := 54) d_Md_drift_54 f_Md_7 sa (Or.inr ⟨_, rfl⟩) (r := r17) er17 ?_
          refine r_iconst (pc := 57) d_Md_drift_57 (v := 0) (by decide) ?_
          obtain ⟨n19, s18, h⟩ := h
          obtain ⟨g20, h⟩ := h
          refine r_iald (pc := 58) d_Md_drift_58 s18 g20 ?_
          refine r_istore (pc := 59) (hd := d_Md_drift_59) (hi := by decide) (ls2 := [.ref a, .int p0, .int p1, .int p2, .int (S13.1 r17 (0 : Int32).toNatClampNeg), .null, .null, .null, .null, .null, .null]) (h2 := rfl) ?_
          refine r_lconst (pc := 61) d_Md_drift_61 (v := 1) (by decide) ?_
          refine r_lstore (pc := 62) (hd := d_Md_drift_62) (hi := by decide) (ls2 := [.ref a, .int p0, .int p1, .int p2, .int (S13.1 r17 (0 : Int32).toNatClampNeg), .long 1, .null, .null, .null, .null, .null]) (h2 := rfl) ?_
          refine r_iconst (pc := 64) d_Md_drift_64 (v := 0) (by decide) ?_
          refine r_istore (pc := 65) (hd := d_Md_drift_65) (hi := by decide) (ls2 := [.ref a, .int p0, .int p1, .int p2, .int (S13.1 r17 (0 : Int32).toNatClampNeg), .long 1, .null, .int 0, .null, .null, .null]) (h2 := rfl) ?_
          exact h
        · replace h := h.2 c16
          refine r_aload_n (pc := 38) d_Md_drift_38 (x := a) rfl ?_
          refine r_iconst (pc := 39) d_Md_drift_39 (v := 0) (by decide) ?_
          refine r_callV (pc := 40) (k := a) (As := [.int 0]) (rest := []) (mc' := 0) (ms' := 0) lk_Md_260 in_Md_gapsOf se_Md_gapsOf sa rfl d_Md_drift_40 k_Md_gapsOf rfl rfl (Nat.le_of_ble_eq_true rfl) (by decide) (by decide) (Sp.mono h ?_)
          rintro rS21 shS21 S21 ⟨qS21, x22, uS21, h⟩
          subst uS21
          rw [qS21]
          refine r_if_ne (pc := 43) d_Md_drift_43 (tgt := 53) (by decide) (fun c23 => ?_) (fun c23 => ?_)
          · replace h := h.1 c23
            refine r_aload_n (pc := 53) d_Md_drift_53 (x := a) rfl ?_
            obtain ⟨r24, er24, h⟩ := h
            refine r_getR (pc := 54) d_Md_drift_54 f_Md_7 sa (Or.inr ⟨_, rfl⟩) (r := r24) er24 ?_
            refine r_iconst (pc := 57) d_Md_drift_57 (v := 0) (by decide) ?_
            obtain ⟨n26, s25, h⟩ := h
            obtain ⟨g27, h⟩ := h
            refine r_iald (pc := 58) d_Md_drift_58 s25 g27 ?_
            refine r_istore (pc := 59) (hd := d_Md_drift_59) (hi := by decide) (ls2 := [.ref a, .int p0, .int p1, .int p2, .int (S21.1 r24 (0 : Int32).toNatClampNeg), .null, .null, .null, .null, .null, .null]) (h2 := rfl) ?_
            refine r_lconst (pc := 61) d_Md_drift_61 (v := 1) (by decide) ?_
            refine r_lstore (pc := 62) (hd := d_Md_drift_62) (hi := by decide) (ls2 := [.ref a, .int p0, .int p1, .int p2, .int (S21.1 r24 (0 : Int32).toNatClampNeg), .long 1, .null, .null, .null, .null, .null]) (h2 := rfl) ?_
            refine r_iconst (pc := 64) d_Md_drift_64 (v := 0) (by decide) ?_
            refine r_istore (pc := 65) (hd := d_Md_drift_65) (hi := by decide) (ls2 := [.ref a, .int p0, .int p1, .int p2, .int (S21.1 r24 (0 : Int32).toNatClampNeg), .long 1, .null, .int 0, .null, .null, .null]) (h2 := rfl) ?_
            exact h
          · replace h := h.2 c23
            refine r_aload_n (pc := 46) d_Md_drift_46 (x := a) rfl ?_
            refine r_bipush (pc := 47) d_Md_drift_47 (v := 6) (by decide) ?_
            refine r_callV (pc := 49) (k := a) (As := [.int 6]) (rest := []) (mc' := 0) (ms' := 0) lk_Md_125 in_Md_is se_Md_is sa rfl d_Md_drift_49 k_Md_is rfl rfl (Nat.le_of_ble_eq_true rfl) (by decide) (by decide) (Sp.mono h ?_)
            rintro rS28 shS28 S28 ⟨qS28, x29, uS28, h⟩
            subst uS28
            rw [qS28]
            obtain ⟨g30, h⟩ := h
            exact r_zreturn (pc := 52) d_Md_drift_52 rfl (aw_nb g30) rfl (Nat.le_refl _) ⟨rfl, _, rfl, h⟩
      · replace h := h.2 c15
        refine r_aload_n (pc := 28) d_Md_drift_28 (x := a) rfl ?_
        refine r_iconst (pc := 29) d_Md_drift_29 (v := 1) (by decide) ?_
        refine r_callV (pc := 30) (k := a) (As := [.int 1]) (rest := []) (mc' := 0) (ms' := 0) lk_Md_125 in_Md_is se_Md_is sa rfl d_Md_drift_30 k_Md_is rfl rfl (Nat.le_of_ble_eq_true rfl) (by decide) (by decide) (Sp.mono h ?_)
        rintro rS31 shS31 S31 ⟨qS31, x32, uS31, h⟩
        subst uS31
        rw [qS31]
        obtain ⟨g33, h⟩ := h
        exact r_zreturn (pc := 33) d_Md_drift_33 rfl (aw_nb g33) rfl (Nat.le_refl _) ⟨rfl, _, rfl, h⟩
set_option maxRecDepth 4000 in
theorem s_Md_drift_67 {l : Launch} {d : Nat} {sh : aw_SH} {S : aw_S} {P : Int32 → aw_S → Prop} {a : Nat} {i1 : Int32} {i2 : Int32} {i3 : Int32} {i4 : Int32} {i5 : Int64} {i7 : Int32} (sa : sh[a]? = some (0, 11)) (h : ((i4 ≤ i7 → AW l m_Md_drift (d + 1) 0 0 (gI sh P) 0 0 105 [.ref a, .null, .int i2, .int i3, .int i4, .long i5, .null, .int 0, .null, .null, .null] [] sh S) ∧ (¬ i4 ≤ i7 → ∃ r2, S.2.2 a 43 = some r2 ∧ Sp l m_Md_placeOf d 0 0 [.ref a, .int i1] sh S (gI sh (fun x4 S3 => ((¬ i7 = x4 → ∃ n7, sh[r2]? = some (4, n7) ∧ vp_in i7 n7 ∧ AW l m_Md_drift (d + 1) 0 0 (gI sh P) 0 0 67 [.ref a, .int i1, .int i2, .int i3, .int i4, .long i5, .null, .int (i7 + 1), .null, .null, .null] [] sh (aw_uL S3 r2 i7.toNatClampNeg 0)) ∧ (i7 = x4 → ∃ n10, sh[r2]? = some (4, n10) ∧ vp_in i7 n10 ∧ AW l m_Md_drift (d + 1) 0 0 (gI sh P) 0 0 67 [.ref a, .int i1, .int i2, .int i3, .int i4, .long i5, .null, .int (i7 + 1), .null, .null, .null] [] sh (aw_uL S3 r2 i7.toNatClampNeg 1)))))))) : AW l m_Md_drift (d + 1) 0 0 (gI sh P) 0 0 67 [.ref a, .int i1, .int i2, .int i3, .int i4, .long i5, .null, .int i7, .null, .null, .null] [] sh S := by
  refine r_iload (pc := 67) d_Md_drift_67 (x := i7) rfl ?_
  refine r_iload (pc := 69) d_Md_drift_69 (x := i4) rfl ?_
  refine r_icmp_ge (pc := 71) d_Md_drift_71 (tgt := 102) (by decide) (fun c1 => ?_) (fun c1 => ?_)
  · replace h := h.1 c1
    refine r_iconst (pc := 102) d_Md_drift_102 (v := 0) (by decide) ?_
    refine r_istore (pc := 103) (hd := d_Md_drift_103) (hi := by decide) (ls2 := [.ref a, .int i1, .int i2, .int i3, .int i4, .long i5, .null, .int 0, .null, .null, .null]) (h2 := rfl) ?_
    exact r_weak (ls2 := [.ref a, .null, .int i2, .int i3, .int i4, .long i5, .null, .int 0, .null, .null, .null]) ⟨Or.inr rfl, Or.inl rfl, Or.inr rfl, Or.inr rfl, Or.inr rfl, Or.inr rfl, Or.inl rfl, Or.inr rfl, Or.inl rfl, Or.inl rfl, Or.inl rfl, trivial⟩ h
  · replace h := h.2 c1
    refine r_aload_n (pc := 74) d_Md_drift_74 (x := a) rfl ?_
    obtain ⟨r2, er2, h⟩ := h
    refine r_getR (pc := 75) d_Md_drift_75 f_Md_93 sa (Or.inr ⟨_, rfl⟩) (r := r2) er2 ?_
    refine r_iload (pc := 78) d_Md_drift_78 (x := i7) rfl ?_
    refine r_iload (pc := 80) d_Md_drift_80 (x := i7) rfl ?_
    refine r_aload_n (pc := 82) d_Md_drift_82 (x := a) rfl ?_
    refine r_iload_n (pc := 83) d_Md_drift_83 (x := i1) rfl ?_
    refine r_callV (pc := 84) (k := a) (As := [.int i1]) (rest := [.int i7, .int i7, .ref r2]) (mc' := 0) (ms' := 0) lk_Md_337 in_Md_placeOf se_Md_placeOf sa rfl d_Md_drift_84 k_Md_placeOf rfl rfl (Nat.le_of_ble_eq_true rfl) (by decide) (by decide) (Sp.mono h ?_)
    rintro rS3 shS3 S3 ⟨qS3, x4, uS3, h⟩
    subst uS3
    rw [qS3]
    refine r_icmp_ne (pc := 87) d_Md_drift_87 (tgt := 94) (by decide) (fun c5 => ?_) (fun c5 => ?_)
    · replace h := h.1 c5
      refine r_lconst (pc := 94) d_Md_drift_94 (v := 0) (by decide) ?_
      obtain ⟨n7, s6, h⟩ := h
      obtain ⟨g8, h⟩ := h
      refine r_last (pc := 95) d_Md_drift_95 s6 g8 ?_
      refine r_iinc (pc := 96) d_Md_drift_96 (hi := by decide) (x := i7) rfl (v := i7 + 1) rfl (ls2 := [.ref a, .int i1, .int i2, .int i3, .int i4, .long i5, .null, .int (i7 + 1), .null, .null, .null]) rfl ?_
      refine r_goto (pc := 99) d_Md_drift_99 (tgt := 67) (by decide) ?_
      exact h
    · replace h := h.2 c5
      refine r_lconst (pc := 90) d_Md_drift_90 (v := 1) (by decide) ?_
      refine r_goto (pc := 91) d_Md_drift_91 (tgt := 95) (by decide) ?_
      obtain ⟨n10, s9, h⟩ := h
      obtain ⟨g11, h⟩ := h
      refine r_last (pc := 95) d_Md_drift_95 s9 g11 ?_
      refine r_iinc (pc := 96) d_Md_drift_96 (hi := by decide) (x := i7) rfl (v := i7 + 1) rfl (ls2 := [.ref a, .int i1, .int i2, .int i3, .int i4, .long i5, .null, .int (i7 + 1), .null, .null, .null]) rfl ?_
      refine r_goto (pc := 99) d_Md_drift_99 (tgt := 67) (by decide) ?_
      exact h
set_option maxRecDepth 4000 in
theorem s_Md_drift_105 {l : Launch} {d : Nat} {sh : aw_SH} {S : aw_S} {P : Int32 → aw_S → Prop} {a : Nat} {i2 : Int32} {i3 : Int32} {i4 : Int32} {i5 : Int64} {i7 : Int32} (sa : sh[a]? = some (0, 11)) (h : ((i3 ≤ i7 → ∃ r2, S.2.2 a 43 = some r2 ∧ ∃ n4, sh[r2]? = some (4, n4) ∧ vp_in i2 n4 ∧ Sp l m_Md_tellsBy d 0 0 [.ref a, .long (S.2.1 r2 i2.toNatClampNeg), .long i5] sh S (gI sh (fun x7 S6 => ((x7 = 0 ∨ x7 = 1) ∧ P x7 S6)))) ∧ (¬ i3 ≤ i7 → AW l m_Md_drift (d + 1) 0 0 (gI sh P) 0 0 114 [.ref a, .null, .int i2, .int i3, .int i4, .long i5, .null, .int i7, .int 0, .null, .null] [] sh S))) : AW l m_Md_drift (d + 1) 0 0 (gI sh P) 0 0 105 [.ref a, .null, .int i2, .int i3, .int i4, .long i5, .null, .int i7, .null, .null, .null] [] sh S := by
  refine r_iload (pc := 105) d_Md_drift_105 (x := i7) rfl ?_
  refine r_iload_n (pc := 107) d_Md_drift_107 (x := i3) rfl ?_
  refine r_icmp_ge (pc := 108) d_Md_drift_108 (tgt := 267) (by decide) (fun c1 => ?_) (fun c1 => ?_)
  · replace h := h.1 c1
    refine r_aload_n (pc := 267) d_Md_drift_267 (x := a) rfl ?_
    refine r_aload_n (pc := 268) d_Md_drift_268 (x := a) rfl ?_
    obtain ⟨r2, er2, h⟩ := h
    refine r_getR (pc := 269) d_Md_drift_269 f_Md_93 sa (Or.inr ⟨_, rfl⟩) (r := r2) er2 ?_
    refine r_iload_n (pc := 272) d_Md_drift_272 (x := i2) rfl ?_
    obtain ⟨n4, s3, h⟩ := h
    obtain ⟨g5, h⟩ := h
    refine r_lald (pc := 273) d_Md_drift_273 s3 g5 ?_
    refine r_lload (pc := 274) d_Md_drift_274 (x := i5) rfl ?_
    refine r_callV (pc := 276) (k := a) (As := [.long (S.2.1 r2 i2.toNatClampNeg), .long i5]) (rest := []) (mc' := 0) (ms' := 0) lk_Md_479 in_Md_tellsBy se_Md_tellsBy sa rfl d_Md_drift_276 k_Md_tellsBy rfl rfl (Nat.le_of_ble_eq_true rfl) (by decide) (by decide) (Sp.mono h ?_)
    rintro rS6 shS6 S6 ⟨qS6, x7, uS6, h⟩
    subst uS6
    rw [qS6]
    obtain ⟨g8, h⟩ := h
    exact r_zreturn (pc := 279) d_Md_drift_279 rfl (aw_nb g8) rfl (Nat.le_refl _) ⟨rfl, _, rfl, h⟩
  · replace h := h.2 c1
    refine r_iconst (pc := 111) d_Md_drift_111 (v := 0) (by decide) ?_
    refine r_istore (pc := 112) (hd := d_Md_drift_112) (hi := by decide) (ls2 := [.ref a, .null, .int i2, .int i3, .int i4, .long i5, .null, .int i7, .int 0, .null, .null]) (h2 := rfl) ?_
    exact h
set_option maxRecDepth 4000 in
theorem s_Md_drift_114 {l : Launch} {d : Nat} {sh : aw_SH} {S : aw_S} {P : Int32 → aw_S → Prop} {a : Nat} {i2 : Int32} {i3 : Int32} {i4 : Int32} {i5 : Int64} {i7 : Int32} {i8 : Int32} (sa : sh[a]? = some (0, 11)) (h : ((i4 ≤ i8 → AW l m_Md_drift (d + 1) 0 0 (gI sh P) 0 0 138 [.ref a, .null, .int i2, .int i3, .int i4, .long i5, .null, .int i7, .int 0, .null, .null] [] sh S) ∧ (¬ i4 ≤ i8 → ∃ r2, S.2.2 a 44 = some r2 ∧ ∃ n4, sh[r2]? = some (4, n4) ∧ vp_in i8 n4 ∧ AW l m_Md_drift (d + 1) 0 0 (gI sh P) 0 0 114 [.ref a, .null, .int i2, .int i3, .int i4, .long i5, .null, .int i7, .int (i8 + 1), .null, .null] [] sh (aw_uL S r2 i8.toNatClampNeg 0)))) : AW l m_Md_drift (d + 1) 0 0 (gI sh P) 0 0 114 [.ref a, .null, .int i2, .int i3, .int i4, .long i5, .null, .int i7, .int i8, .null, .null] [] sh S := by
  refine r_iload (pc := 114) d_Md_drift_114 (x := i8) rfl ?_
  refine r_iload (pc := 116) d_Md_drift_116 (x := i4) rfl ?_
  refine r_icmp_ge (pc := 118) d_Md_drift_118 (tgt := 135) (by decide) (fun c1 => ?_) (fun c1 => ?_)
  · replace h := h.1 c1
    refine r_iconst (pc := 135) d_Md_drift_135 (v := 0) (by decide) ?_
    refine r_istore (pc := 136) (hd := d_Md_drift_136) (hi := by decide) (ls2 := [.ref a, .null, .int i2, .int i3, .int i4, .long i5, .null, .int i7, .int 0, .null, .null]) (h2 := rfl) ?_
    exact h
  · replace h := h.2 c1
    refine r_aload_n (pc := 121) d_Md_drift_121 (x := a) rfl ?_
    obtain ⟨r2, er2, h⟩ := h
    refine r_getR (pc := 122) d_Md_drift_122 f_Md_96 sa (Or.inr ⟨_, rfl⟩) (r := r2) er2 ?_
    refine r_iload (pc := 125) d_Md_drift_125 (x := i8) rfl ?_
    refine r_lconst (pc := 127) d_Md_drift_127 (v := 0) (by decide) ?_
    obtain ⟨n4, s3, h⟩ := h
    obtain ⟨g5, h⟩ := h
    refine r_last (pc := 128) d_Md_drift_128 s3 g5 ?_
    refine r_iinc (pc := 129) d_Md_drift_129 (hi := by decide) (x := i8) rfl (v := i8 + 1) rfl (ls2 := [.ref a, .null, .int i2, .int i3, .int i4, .long i5, .null, .int i7, .int (i8 + 1), .null, .null]) rfl ?_
    refine r_goto (pc := 132) d_Md_drift_132 (tgt := 114) (by decide) ?_
    exact h
set_option maxRecDepth 4000 in
theorem s_Md_drift_138 {l : Launch} {d : Nat} {sh : aw_SH} {S : aw_S} {P : Int32 → aw_S → Prop} {a : Nat} {i2 : Int32} {i3 : Int32} {i4 : Int32} {i5 : Int64} {i7 : Int32} {i8 : Int32} (sa : sh[a]? = some (0, 11)) (h : Sp l m_Md_gapsOf d 0 0 [.ref a, .int 0] sh S (gI sh (fun x2 S1 => ((x2 ≤ i8 → AW l m_Md_drift (d + 1) 0 0 (gI sh P) 0 0 223 [.ref a, .null, .int i2, .int i3, .int i4, .long i5, .null, .int i7, .int 0, .null, .null] [] sh S1) ∧ (¬ x2 ≤ i8 → ¬ i4 = 0 ∧ AW l m_Md_drift (d + 1) 0 0 (gI sh P) 0 0 160 [.ref a, .null, .int i2, .int i3, .int i4, .long i5, .null, .int i7, .int i8, .int ((i8 + (1 : Int32)) - (i8 + (1 : Int32)) / i4 * i4), .int 0] [] sh S1))))) : AW l m_Md_drift (d + 1) 0 0 (gI sh P) 0 0 138 [.ref a, .null, .int i2, .int i3, .int i4, .long i5, .null, .int i7, .int i8, .null, .null] [] sh S := by
  refine r_iload (pc := 138) d_Md_drift_138 (x := i8) rfl ?_
  refine r_aload_n (pc := 140) d_Md_drift_140 (x := a) rfl ?_
  refine r_iconst (pc := 141) d_Md_drift_141 (v := 0) (by decide) ?_
  refine r_callV (pc := 142) (k := a) (As := [.int 0]) (rest := [.int i8]) (mc' := 0) (ms' := 0) lk_Md_260 in_Md_gapsOf se_Md_gapsOf sa rfl d_Md_drift_142 k_Md_gapsOf rfl rfl (Nat.le_of_ble_eq_true rfl) (by decide) (by decide) (Sp.mono h ?_)
  rintro rS1 shS1 S1 ⟨qS1, x2, uS1, h⟩
  subst uS1
  rw [qS1]
  refine r_icmp_ge (pc := 145) d_Md_drift_145 (tgt := 220) (by decide) (fun c3 => ?_) (fun c3 => ?_)
  · replace h := h.1 c3
    refine r_iconst (pc := 220) d_Md_drift_220 (v := 0) (by decide) ?_
    refine r_istore (pc := 221) (hd := d_Md_drift_221) (hi := by decide) (ls2 := [.ref a, .null, .int i2, .int i3, .int i4, .long i5, .null, .int i7, .int 0, .null, .null]) (h2 := rfl) ?_
    exact h
  · replace h := h.2 c3
    refine r_iload (pc := 148) d_Md_drift_148 (x := i8) rfl ?_
    refine r_iconst (pc := 150) d_Md_drift_150 (v := 1) (by decide) ?_
    refine r_iadd (pc := 151) d_Md_drift_151 ?_
    refine r_iload (pc := 152) d_Md_drift_152 (x := i4) rfl ?_
    obtain ⟨g4, h⟩ := h
    refine r_irem (pc := 154) d_Md_drift_154 g4 ?_
    refine r_istore (pc := 155) (hd := d_Md_drift_155) (hi := by decide) (ls2 := [.ref a, .null, .int i2, .int i3, .int i4, .long i5, .null, .int i7, .int i8, .int ((i8 + (1 : Int32)) - (i8 + (1 : Int32)) / i4 * i4), .null]) (h2 := rfl) ?_
    refine r_iconst (pc := 157) d_Md_drift_157 (v := 0) (by decide) ?_
    refine r_istore (pc := 158) (hd := d_Md_drift_158) (hi := by decide) (ls2 := [.ref a, .null, .int i2, .int i3, .int i4, .long i5, .null, .int i7, .int i8, .int ((i8 + (1 : Int32)) - (i8 + (1 : Int32)) / i4 * i4), .int 0]) (h2 := rfl) ?_
    exact h
set_option maxRecDepth 4000 in
theorem s_Md_drift_223 {l : Launch} {d : Nat} {sh : aw_SH} {S : aw_S} {P : Int32 → aw_S → Prop} {a : Nat} {i2 : Int32} {i3 : Int32} {i4 : Int32} {i5 : Int64} {i7 : Int32} {i8 : Int32} (sa : sh[a]? = some (0, 11)) (h : ((i4 ≤ i8 → Sp l m_Md_gapsOf d 0 0 [.ref a, .int 0] sh S (gI sh (fun x3 S2 => AW l m_Md_drift (d + 1) 0 0 (gI sh P) 0 0 105 [.ref a, .null, .int i2, .int i3, .int i4, .long (i5 * x3.toInt64), .null, .int (i7 + 1), .null, .null, .null] [] sh S2))) ∧ (¬ i4 ≤ i8 → ∃ r4, S.2.2 a 43 = some r4 ∧ ∃ r5, S.2.2 a 44 = some r5 ∧ ∃ n7, sh[r5]? = some (4, n7) ∧ vp_in i8 n7 ∧ ∃ n10, sh[r4]? = some (4, n10) ∧ vp_in i8 n10 ∧ AW l m_Md_drift (d + 1) 0 0 (gI sh P) 0 0 223 [.ref a, .null, .int i2, .int i3, .int i4, .long i5, .null, .int i7, .int (i8 + 1), .null, .null] [] sh (aw_uL S r4 i8.toNatClampNeg (S.2.1 r5 i8.toNatClampNeg))))) : AW l m_Md_drift (d + 1) 0 0 (gI sh P) 0 0 223 [.ref a, .null, .int i2, .int i3, .int i4, .long i5, .null, .int i7, .int i8, .null, .null] [] sh S := by
  refine r_iload (pc := 223) d_Md_drift_223 (x := i8) rfl ?_
  refine r_iload (pc := 225) d_Md_drift_225 (x := i4) rfl ?_
  refine r_icmp_ge (pc := 227) d_Md_drift_227 (tgt := 250) (by decide) (fun c1 => ?_) (fun c1 => ?_)
  · replace h := h.1 c1
    refine r_lload (pc := 250) d_Md_drift_250 (x := i5) rfl ?_
    refine r_aload_n (pc := 252) d_Md_drift_252 (x := a) rfl ?_
    refine r_iconst (pc := 253) d_Md_drift_253 (v := 0) (by decide) ?_
    refine r_callV (pc := 254) (k := a) (As := [.int 0]) (rest := [.long i5]) (mc' := 0) (ms' := 0) lk_Md_260 in_Md_gapsOf se_Md_gapsOf sa rfl d_Md_drift_254 k_Md_gapsOf rfl rfl (Nat.le_of_ble_eq_true rfl) (by decide) (by decide) (Sp.mono h ?_)
    rintro rS2 shS2 S2 ⟨qS2, x3, uS2, h⟩
    subst uS2
    rw [qS2]
    refine r_i2l (pc := 257) d_Md_drift_257 ?_
    refine r_lmul (pc := 258) d_Md_drift_258 ?_
    refine r_lstore (pc := 259) (hd := d_Md_drift_259) (hi := by decide) (ls2 := [.ref a, .null, .int i2, .int i3, .int i4, .long (i5 * x3.toInt64), .null, .int i7, .int i8, .null, .null]) (h2 := rfl) ?_
    refine r_iinc (pc := 261) d_Md_drift_261 (hi := by decide) (x := i7) rfl (v := i7 + 1) rfl (ls2 := [.ref a, .null, .int i2, .int i3, .int i4, .long (i5 * x3.toInt64), .null, .int (i7 + 1), .int i8, .null, .null]) rfl ?_
    refine r_goto (pc := 264) d_Md_drift_264 (tgt := 105) (by decide) ?_
    exact r_weak (ls2 := [.ref a, .null, .int i2, .int i3, .int i4, .long (i5 * x3.toInt64), .null, .int (i7 + 1), .null, .null, .null]) ⟨Or.inr rfl, Or.inl rfl, Or.inr rfl, Or.inr rfl, Or.inr rfl, Or.inr rfl, Or.inl rfl, Or.inr rfl, Or.inl rfl, Or.inl rfl, Or.inl rfl, trivial⟩ h
  · replace h := h.2 c1
    refine r_aload_n (pc := 230) d_Md_drift_230 (x := a) rfl ?_
    obtain ⟨r4, er4, h⟩ := h
    refine r_getR (pc := 231) d_Md_drift_231 f_Md_93 sa (Or.inr ⟨_, rfl⟩) (r := r4) er4 ?_
    refine r_iload (pc := 234) d_Md_drift_234 (x := i8) rfl ?_
    refine r_aload_n (pc := 236) d_Md_drift_236 (x := a) rfl ?_
    obtain ⟨r5, er5, h⟩ := h
    refine r_getR (pc := 237) d_Md_drift_237 f_Md_96 sa (Or.inr ⟨_, rfl⟩) (r := r5) er5 ?_
    refine r_iload (pc := 240) d_Md_drift_240 (x := i8) rfl ?_
    obtain ⟨n7, s6, h⟩ := h
    obtain ⟨g8, h⟩ := h
    refine r_lald (pc := 242) d_Md_drift_242 s6 g8 ?_
    obtain ⟨n10, s9, h⟩ := h
    obtain ⟨g11, h⟩ := h
    refine r_last (pc := 243) d_Md_drift_243 s9 g11 ?_
    refine r_iinc (pc := 244) d_Md_drift_244 (hi := by decide) (x := i8) rfl (v := i8 + 1) rfl (ls2 := [.ref a, .null, .int i2, .int i3, .int i4, .long i5, .null, .int i7, .int (i8 + 1), .null, .null]) rfl ?_
    refine r_goto (pc := 247) d_Md_drift_247 (tgt := 223) (by decide) ?_
    exact h
set_option maxRecDepth 4000 in
theorem s_Md_drift_160 {l : Launch} {d : Nat} {sh : aw_SH} {S : aw_S} {P : Int32 → aw_S → Prop} {a : Nat} {i2 : Int32} {i3 : Int32} {i4 : Int32} {i5 : Int64} {i7 : Int32} {i8 : Int32} {i9 : Int32} {i10 : Int32} (sa : sh[a]? = some (0, 11)) (h : ((i4 ≤ i10 → AW l m_Md_drift (d + 1) 0 0 (gI sh P) 0 0 138 [.ref a, .null, .int i2, .int i3, .int i4, .long i5, .null, .int i7, .int (i8 + 1), .null, .null] [] sh S) ∧ (¬ i4 ≤ i10 → ∃ r2, S.2.2 a 44 = some r2 ∧ ((¬ i10 = i8 → ((¬ i10 = i9 → ∃ n6, sh[r2]? = some (4, n6) ∧ vp_in i10 n6 ∧ ∃ r8, S.2.2 a 43 = some r8 ∧ ∃ n10, sh[r8]? = some (4, n10) ∧ vp_in i10 n10 ∧ vp_in i10 n6 ∧ AW l m_Md_drift (d + 1) 0 0 (gI sh P) 0 0 160 [.ref a, .null, .int i2, .int i3, .int i4, .long i5, .null, .int i7, .int i8, .int i9, .int (i10 + 1)] [] sh (aw_uL S r2 i10.toNatClampNeg ((S.2.1 r2 i10.toNatClampNeg) + (S.2.1 r8 i10.toNatClampNeg)))) ∧ (i10 = i9 → ∃ n14, sh[r2]? = some (4, n14) ∧ vp_in i8 n14 ∧ ∃ r16, S.2.2 a 43 = some r16 ∧ ∃ n18, sh[r16]? = some (4, n18) ∧ vp_in i10 n18 ∧ vp_in i8 n14 ∧ AW l m_Md_drift (d + 1) 0 0 (gI sh P) 0 0 160 [.ref a, .null, .int i2, .int i3, .int i4, .long i5, .null, .int i7, .int i8, .int i9, .int (i10 + 1)] [] sh (aw_uL S r2 i8.toNatClampNeg ((S.2.1 r2 i8.toNatClampNeg) + (S.2.1 r16 i10.toNatClampNeg)))))) ∧ (i10 = i8 → ∃ n22, sh[r2]? = some (4, n22) ∧ vp_in i9 n22 ∧ ∃ r24, S.2.2 a 43 = some r24 ∧ ∃ n26, sh[r24]? = some (4, n26) ∧ vp_in i10 n26 ∧ vp_in i9 n22 ∧ AW l m_Md_drift (d + 1) 0 0 (gI sh P) 0 0 160 [.ref a, .null, .int i2, .int i3, .int i4, .long i5, .null, .int i7, .int i8, .int i9, .int (i10 + 1)] [] sh (aw_uL S r2 i9.toNatClampNeg ((S.2.1 r2 i9.toNatClampNeg) + (S.2.1 r24 i10.toNatClampNeg)))))))) : AW l m_Md_drift (d + 1) 0 0 (gI sh P) 0 0 160 [.ref a, .null, .int i2, .int i3, .int i4, .long i5, .null, .int i7, .int i8, .int i9, .int i10] [] sh S := by
  refine r_iload (pc := 160) d_Md_drift_160 (x := i10) rfl ?_
  refine r_iload (pc := 162) d_Md_drift_162 (x := i4) rfl ?_
  refine r_icmp_ge (pc := 164) d_Md_drift_164 (tgt := 214) (by decide) (fun c1 => ?_) (fun c1 => ?_)
  · replace h := h.1 c1
    refine r_iinc (pc := 214) d_Md_drift_214 (hi := by decide) (x := i8) rfl (v := i8 + 1) rfl (ls2 := [.ref a, .null, .int i2, .int i3, .int i4, .long i5, .null, .int i7, .int (i8 + 1), .int i9, .int i10]) rfl ?_
    refine r_goto (pc := 217) d_Md_drift_217 (tgt := 138) (by decide) ?_
    exact r_weak (ls2 := [.ref a, .null, .int i2, .int i3, .int i4, .long i5, .null, .int i7, .int (i8 + 1), .null, .null]) ⟨Or.inr rfl, Or.inl rfl, Or.inr rfl, Or.inr rfl, Or.inr rfl, Or.inr rfl, Or.inl rfl, Or.inr rfl, Or.inr rfl, Or.inl rfl, Or.inl rfl, trivial⟩ h
  · replace h := h.2 c1
    refine r_aload_n (pc := 167) d_Md_drift_167 (x := a) rfl ?_
    obtain ⟨r2, er2, h⟩ := h
    refine r_getR (pc := 168) d_Md_drift_168 f_Md_96 sa (Or.inr ⟨_, rfl⟩) (r := r2) er2 ?_
    refine r_iload (pc := 171) d_Md_drift_171 (x := i10) rfl ?_
    refine r_iload (pc := 173) d_Md_drift_173 (x := i8) rfl ?_
    refine r_icmp_ne (pc := 175) d_Md_drift_175 (tgt := 183) (by decide) (fun c3 => ?_) (fun c3 => ?_)
    · replace h := h.1 c3
      refine r_iload (pc := 183) d_Md_drift_183 (x := i10) rfl ?_
      refine r_iload (pc := 185) d_Md_drift_185 (x := i9) rfl ?_
      refine r_icmp_ne (pc := 187) d_Md_drift_187 (tgt := 195) (by decide) (fun c4 => ?_) (fun c4 => ?_)
      · replace h := h.1 c4
        refine r_iload (pc := 195) d_Md_drift_195 (x := i10) rfl ?_
        refine r_dup2 (pc := 197) d_Md_drift_197 rfl rfl ?_
        obtain ⟨n6, s5, h⟩ := h
        obtain ⟨g7, h⟩ := h
        refine r_lald (pc := 198) d_Md_drift_198 s5 g7 ?_
        refine r_aload_n (pc := 199) d_Md_drift_199 (x := a) rfl ?_
        obtain ⟨r8, er8, h⟩ := h
        refine r_getR (pc := 200) d_Md_drift_200 f_Md_93 sa (Or.inr ⟨_, rfl⟩) (r := r8) er8 ?_
        refine r_iload (pc := 203) d_Md_drift_203 (x := i10) rfl ?_
        obtain ⟨n10, s9, h⟩ := h
        obtain ⟨g11, h⟩ := h
        refine r_lald (pc := 205) d_Md_drift_205 s9 g11 ?_
        refine r_ladd (pc := 206) d_Md_drift_206 ?_
        obtain ⟨g12, h⟩ := h
        refine r_last (pc := 207) d_Md_drift_207 s5 g12 ?_
        refine r_iinc (pc := 208) d_Md_drift_208 (hi := by decide) (x := i10) rfl (v := i10 + 1) rfl (ls2 := [.ref a, .null, .int i2, .int i3, .int i4, .long i5, .null, .int i7, .int i8, .int i9, .int (i10 + 1)]) rfl ?_
        refine r_goto (pc := 211) d_Md_drift_211 (tgt := 160) (by decide) ?_
        exact h
      · replace h := h.2 c4
        refine r_iload (pc := 190) d_Md_drift_190 (x := i8) rfl ?_
        refine r_goto (pc := 192) d_Md_drift_192 (tgt := 197) (by decide) ?_
        refine r_dup2 (pc := 197) d_Md_drift_197 rfl rfl ?_
        obtain ⟨n14, s13, h⟩ := h
        obtain ⟨g15, h⟩ := h
        refine r_lald (pc := 198) d_Md_drift_198 s13 g15 ?_
        refine r_aload_n (pc := 199) d_Md_drift_199 (x := a) rfl ?_
        obtain ⟨r16, er16, h⟩ := h
        refine r_getR (pc := 200) d_Md_drift_200 f_Md_93 sa (Or.inr ⟨_, rfl⟩) (r := r16) er16 ?_
        refine r_iload (pc := 203) d_Md_drift_203 (x := i10) rfl ?_
        obtain ⟨n18, s17, h⟩ := h
        obtain ⟨g19, h⟩ := h
        refine r_lald (pc := 205) d_Md_drift_205 s17 g19 ?_
        refine r_ladd (pc := 206) d_Md_drift_206 ?_
        obtain ⟨g20, h⟩ := h
        refine r_last (pc := 207) d_Md_drift_207 s13 g20 ?_
        refine r_iinc (pc := 208) d_Md_drift_208 (hi := by decide) (x := i10) rfl (v := i10 + 1) rfl (ls2 := [.ref a, .null, .int i2, .int i3, .int i4, .long i5, .null, .int i7, .int i8, .int i9, .int (i10 + 1)]) rfl ?_
        refine r_goto (pc := 211) d_Md_drift_211 (tgt := 160) (by decide) ?_
        exact h
    · replace h := h.2 c3
      refine r_iload (pc := 178) d_Md_drift_178 (x := i9) rfl ?_
      refine r_goto (pc := 180) d_Md_drift_180 (tgt := 197) (by decide) ?_
      refine r_dup2 (pc := 197) d_Md_drift_197 rfl rfl ?_
      obtain ⟨n22, s21, h⟩ := h
      obtain ⟨g23, h⟩ := h
      refine r_lald (pc := 198) d_Md_drift_198 s21 g23 ?_
      refine r_aload_n (pc := 199) d_Md_drift_199 (x := a) rfl ?_
      obtain ⟨r24, er24, h⟩ := h
      refine r_getR (pc := 200) d_Md_drift_200 f_Md_93 sa (Or.inr ⟨_, rfl⟩) (r := r24) er24 ?_
      refine r_iload (pc := 203) d_Md_drift_203 (x := i10) rfl ?_
      obtain ⟨n26, s25, h⟩ := h
      obtain ⟨g27, h⟩ := h
      refine r_lald (pc := 205) d_Md_drift_205 s25 g27 ?_
      refine r_ladd (pc := 206) d_Md_drift_206 ?_
      obtain ⟨g28, h⟩ := h
      refine r_last (pc := 207) d_Md_drift_207 s21 g28 ?_
      refine r_iinc (pc := 208) d_Md_drift_208 (hi := by decide) (x := i10) rfl (v := i10 + 1) rfl (ls2 := [.ref a, .null, .int i2, .int i3, .int i4, .long i5, .null, .int i7, .int i8, .int i9, .int (i10 + 1)]) rfl ?_
      refine r_goto (pc := 211) d_Md_drift_211 (tgt := 160) (by decide) ?_
      exact h
set_option maxRecDepth 4000 in
theorem e_Md_share {l : Launch} {d : Nat} {sh : aw_SH} {S : aw_S} {P : Int32 → aw_S → Prop} {a : Nat} {p0 : Int32} (sa : sh[a]? = some (0, 11)) (h : Sp l m_Md_isDancer d 0 0 [.ref a, .int p0] sh S (gI sh (fun x2 S1 => ((¬ x2 = 0 → ∃ r4, S1.2.2 a 0 = some r4 ∧ ∃ n6, sh[r4]? = some (3, n6) ∧ vp_in 3 n6 ∧ ((¬ (S1.1 r4 (3 : Int32).toNatClampNeg) = 0 → Sp l m_Md_wentSo d 0 0 [.ref a, .int p0, .int 2] sh S1 (gI sh (fun x10 S9 => ∃ r11, S9.2.2 a 0 = some r11 ∧ ∃ n13, sh[r11]? = some (3, n13) ∧ vp_in 3 n13 ∧ Sp l m_Md_tellsBy d 0 0 [.ref a, .long x10.toInt64, .long ((S9.1 r11 (3 : Int32).toNatClampNeg).toInt64)] sh S9 (gI sh (fun x16 S15 => ((x16 = 0 ∨ x16 = 1) ∧ P x16 S15)))))) ∧ ((S1.1 r4 (3 : Int32).toNatClampNeg) = 0 → Sp l m_Md_is d 0 0 [.ref a, .int 6] sh S1 (gI sh (fun x19 S18 => ((x19 = 0 ∨ x19 = 1) ∧ P x19 S18)))))) ∧ (x2 = 0 → Sp l m_Md_is d 0 0 [.ref a, .int 1] sh S1 (gI sh (fun x22 S21 => ((x22 = 0 ∨ x22 = 1) ∧ P x22 S21)))))))) : Sp l m_Md_share (d + 1) 0 0 [.ref a, .int p0] sh S (gI sh P) := by
  refine Sp.of k_Md_share (ls := [.ref a, .int p0]) rfl (Nat.le_of_ble_eq_true rfl) ?_
  refine r_aload_n (pc := 0) d_Md_share_0 (x := a) rfl ?_
  refine r_iload_n (pc := 1) d_Md_share_1 (x := p0) rfl ?_
  refine r_callV (pc := 2) (k := a) (As := [.int p0]) (rest := []) (mc' := 0) (ms' := 0) lk_Md_313 in_Md_isDancer se_Md_isDancer sa rfl d_Md_share_2 k_Md_isDancer rfl rfl (Nat.le_of_ble_eq_true rfl) (by decide) (by decide) (Sp.mono h ?_)
  rintro rS1 shS1 S1 ⟨qS1, x2, uS1, h⟩
  subst uS1
  rw [qS1]
  refine r_if_ne (pc := 5) d_Md_share_5 (tgt := 14) (by decide) (fun c3 => ?_) (fun c3 => ?_)
  · replace h := h.1 c3
    refine r_aload_n (pc := 14) d_Md_share_14 (x := a) rfl ?_
    obtain ⟨r4, er4, h⟩ := h
    refine r_getR (pc := 15) d_Md_share_15 f_Md_7 sa (Or.inr ⟨_, rfl⟩) (r := r4) er4 ?_
    refine r_iconst (pc := 18) d_Md_share_18 (v := 3) (by decide) ?_
    obtain ⟨n6, s5, h⟩ := h
    obtain ⟨g7, h⟩ := h
    refine r_iald (pc := 19) d_Md_share_19 s5 g7 ?_
    refine r_if_ne (pc := 20) d_Md_share_20 (tgt := 32) (by decide) (fun c8 => ?_) (fun c8 => ?_)
    · replace h := h.1 c8
      refine r_aload_n (pc := 32) d_Md_share_32 (x := a) rfl ?_
      refine r_aload_n (pc := 33) d_Md_share_33 (x := a) rfl ?_
      refine r_iload_n (pc := 34) d_Md_share_34 (x := p0) rfl ?_
      refine r_iconst (pc := 35) d_Md_share_35 (v := 2) (by decide) ?_
      refine r_callV (pc := 36) (k := a) (As := [.int p0, .int 2]) (rest := [.ref a]) (mc' := 0) (ms' := 0) lk_Md_340 in_Md_wentSo se_Md_wentSo sa rfl d_Md_share_36 k_Md_wentSo rfl rfl (Nat.le_of_ble_eq_true rfl) (by decide) (by decide) (Sp.mono h ?_)
      rintro rS9 shS9 S9 ⟨qS9, x10, uS9, h⟩
      subst uS9
      rw [qS9]
      refine r_i2l (pc := 39) d_Md_share_39 ?_
      refine r_aload_n (pc := 40) d_Md_share_40 (x := a) rfl ?_
      obtain ⟨r11, er11, h⟩ := h
      refine r_getR (pc := 41) d_Md_share_41 f_Md_7 sa (Or.inr ⟨_, rfl⟩) (r := r11) er11 ?_
      refine r_iconst (pc := 44) d_Md_share_44 (v := 3) (by decide) ?_
      obtain ⟨n13, s12, h⟩ := h
      obtain ⟨g14, h⟩ := h
      refine r_iald (pc := 45) d_Md_share_45 s12 g14 ?_
      refine r_i2l (pc := 46) d_Md_share_46 ?_
      refine r_callV (pc := 47) (k := a) (As := [.long x10.toInt64, .long ((S9.1 r11 (3 : Int32).toNatClampNeg).toInt64)]) (rest := []) (mc' := 0) (ms' := 0) lk_Md_479 in_Md_tellsBy se_Md_tellsBy sa rfl d_Md_share_47 k_Md_tellsBy rfl rfl (Nat.le_of_ble_eq_true rfl) (by decide) (by decide) (Sp.mono h ?_)
      rintro rS15 shS15 S15 ⟨qS15, x16, uS15, h⟩
      subst uS15
      rw [qS15]
      obtain ⟨g17, h⟩ := h
      exact r_zreturn (pc := 50) d_Md_share_50 rfl (aw_nb g17) rfl (Nat.le_refl _) ⟨rfl, _, rfl, h⟩
    · replace h := h.2 c8
      refine r_aload_n (pc := 23) d_Md_share_23 (x := a) rfl ?_
      refine r_bipush (pc := 24) d_Md_share_24 (v := 6) (by decide) ?_
      refine r_callV (pc := 26) (k := a) (As := [.int 6]) (rest := []) (mc' := 0) (ms' := 0) lk_Md_125 in_Md_is se_Md_is sa rfl d_Md_share_26 k_Md_is rfl rfl (Nat.le_of_ble_eq_true rfl) (by decide) (by decide) (Sp.mono h ?_)
      rintro rS18 shS18 S18 ⟨qS18, x19, uS18, h⟩
      subst uS18
      rw [qS18]
      refine r_goto (pc := 29) d_Md_share_29 (tgt := 50) (by decide) ?_
      obtain ⟨g20, h⟩ := h
      exact r_zreturn (pc := 50) d_Md_share_50 rfl (aw_nb g20) rfl (Nat.le_refl _) ⟨rfl, _, rfl, h⟩
  · replace h := h.2 c3
    refine r_aload_n (pc := 8) d_Md_share_8 (x := a) rfl ?_
    refine r_iconst (pc := 9) d_Md_share_9 (v := 1) (by decide) ?_
    refine r_callV (pc := 10) (k := a) (As := [.int 1]) (rest := []) (mc' := 0) (ms' := 0) lk_Md_125 in_Md_is se_Md_is sa rfl d_Md_share_10 k_Md_is rfl rfl (Nat.le_of_ble_eq_true rfl) (by decide) (by decide) (Sp.mono h ?_)
    rintro rS21 shS21 S21 ⟨qS21, x22, uS21, h⟩
    subst uS21
    rw [qS21]
    obtain ⟨g23, h⟩ := h
    exact r_zreturn (pc := 13) d_Md_share_13 rfl (aw_nb g23) rfl (Nat.le_refl _) ⟨rfl, _, rfl, h⟩
set_option maxRecDepth 4000 in
theorem e_Md_copyShows {l : Launch} {d : Nat} {sh : aw_SH} {S : aw_S} {P : Int32 → aw_S → Prop} {a : Nat} {p0 : Int32} (sa : sh[a]? = some (0, 11)) (h : Sp l m_Md_isTray d 0 0 [.int p0] sh S (gI sh (fun x2 S1 => ((¬ x2 = 0 → ∃ r4, S1.2.2 a 6 = some r4 ∧ ∃ n6, sh[r4]? = some (3, n6) ∧ vp_in p0 n6 ∧ ((¬ (S1.1 r4 p0.toNatClampNeg) = (-1) → vp_in p0 n6 ∧ Sp l m_Md_gapsOf d 0 0 [.ref a, .int 0] sh S1 (gI sh (fun x11 S10 => ((x11 ≤ (S1.1 r4 p0.toNatClampNeg) → AW l m_Md_copyShows (d + 1) 0 0 (gI sh P) 0 0 51 [.ref a, .int p0, .int 0] [] sh S10) ∧ (¬ x11 ≤ (S1.1 r4 p0.toNatClampNeg) → Sp l m_Md_refuse d 0 0 [.ref a, .int 3] sh S10 (gI sh (fun x14 S13 => P x14 S13))))))) ∧ ((S1.1 r4 p0.toNatClampNeg) = (-1) → Sp l m_Md_refuse d 0 0 [.ref a, .int 2] sh S1 (gI sh (fun x16 S15 => P x16 S15))))) ∧ (x2 = 0 → Sp l m_Md_refuse d 0 0 [.ref a, .int 1] sh S1 (gI sh (fun x18 S17 => P x18 S17))))))) : Sp l m_Md_copyShows (d + 1) 0 0 [.ref a, .int p0] sh S (gI sh P) := by
  refine Sp.of k_Md_copyShows (ls := [.ref a, .int p0, .null]) rfl (Nat.le_of_ble_eq_true rfl) ?_
  refine r_iload_n (pc := 0) d_Md_copyShows_0 (x := p0) rfl ?_
  refine r_callS (pc := 1) (k := 0) (As := [.int p0]) (rest := []) (mc' := 0) (ms' := 0) lk_Md_129 st_Md_isTray d_Md_copyShows_1 k_Md_isTray rfl rfl (Nat.le_of_ble_eq_true rfl) (by decide) (by decide) (Sp.mono h ?_)
  rintro rS1 shS1 S1 ⟨qS1, x2, uS1, h⟩
  subst uS1
  rw [qS1]
  refine r_if_ne (pc := 4) d_Md_copyShows_4 (tgt := 13) (by decide) (fun c3 => ?_) (fun c3 => ?_)
  · replace h := h.1 c3
    refine r_aload_n (pc := 13) d_Md_copyShows_13 (x := a) rfl ?_
    obtain ⟨r4, er4, h⟩ := h
    refine r_getR (pc := 14) d_Md_copyShows_14 f_Md_24 sa (Or.inr ⟨_, rfl⟩) (r := r4) er4 ?_
    refine r_iload_n (pc := 17) d_Md_copyShows_17 (x := p0) rfl ?_
    obtain ⟨n6, s5, h⟩ := h
    obtain ⟨g7, h⟩ := h
    refine r_iald (pc := 18) d_Md_copyShows_18 s5 g7 ?_
    refine r_iconst (pc := 19) d_Md_copyShows_19 (v := (-1)) (by decide) ?_
    refine r_icmp_ne (pc := 20) d_Md_copyShows_20 (tgt := 29) (by decide) (fun c8 => ?_) (fun c8 => ?_)
    · replace h := h.1 c8
      refine r_aload_n (pc := 29) d_Md_copyShows_29 (x := a) rfl ?_
      refine r_getR (pc := 30) d_Md_copyShows_30 f_Md_24 sa (Or.inr ⟨_, rfl⟩) (r := r4) er4 ?_
      refine r_iload_n (pc := 33) d_Md_copyShows_33 (x := p0) rfl ?_
      obtain ⟨g9, h⟩ := h
      refine r_iald (pc := 34) d_Md_copyShows_34 s5 g9 ?_
      refine r_aload_n (pc := 35) d_Md_copyShows_35 (x := a) rfl ?_
      refine r_iconst (pc := 36) d_Md_copyShows_36 (v := 0) (by decide) ?_
      refine r_callV (pc := 37) (k := a) (As := [.int 0]) (rest := [.int (S1.1 r4 p0.toNatClampNeg)]) (mc' := 0) (ms' := 0) lk_Md_260 in_Md_gapsOf se_Md_gapsOf sa rfl d_Md_copyShows_37 k_Md_gapsOf rfl rfl (Nat.le_of_ble_eq_true rfl) (by decide) (by decide) (Sp.mono h ?_)
      rintro rS10 shS10 S10 ⟨qS10, x11, uS10, h⟩
      subst uS10
      rw [qS10]
      refine r_icmp_ge (pc := 40) d_Md_copyShows_40 (tgt := 49) (by decide) (fun c12 => ?_) (fun c12 => ?_)
      · replace h := h.1 c12
        refine r_iconst (pc := 49) d_Md_copyShows_49 (v := 0) (by decide) ?_
        refine r_istore_n (pc := 50) (hk := rfl) (hd := d_Md_copyShows_50) (hi := by decide) (ls2 := [.ref a, .int p0, .int 0]) (h2 := rfl) ?_
        exact h
      · replace h := h.2 c12
        refine r_aload_n (pc := 43) d_Md_copyShows_43 (x := a) rfl ?_
        refine r_iconst (pc := 44) d_Md_copyShows_44 (v := 3) (by decide) ?_
        refine r_callV (pc := 45) (k := a) (As := [.int 3]) (rest := []) (mc' := 0) (ms' := 0) lk_Md_118 in_Md_refuse se_Md_refuse sa rfl d_Md_copyShows_45 k_Md_refuse rfl rfl (Nat.le_of_ble_eq_true rfl) (by decide) (by decide) (Sp.mono h ?_)
        rintro rS13 shS13 S13 ⟨qS13, x14, uS13, h⟩
        subst uS13
        rw [qS13]
        exact r_ireturn (pc := 48) d_Md_copyShows_48 rfl rfl (Nat.le_refl _) ⟨rfl, _, rfl, h⟩
    · replace h := h.2 c8
      refine r_aload_n (pc := 23) d_Md_copyShows_23 (x := a) rfl ?_
      refine r_iconst (pc := 24) d_Md_copyShows_24 (v := 2) (by decide) ?_
      refine r_callV (pc := 25) (k := a) (As := [.int 2]) (rest := []) (mc' := 0) (ms' := 0) lk_Md_118 in_Md_refuse se_Md_refuse sa rfl d_Md_copyShows_25 k_Md_refuse rfl rfl (Nat.le_of_ble_eq_true rfl) (by decide) (by decide) (Sp.mono h ?_)
      rintro rS15 shS15 S15 ⟨qS15, x16, uS15, h⟩
      subst uS15
      rw [qS15]
      exact r_ireturn (pc := 28) d_Md_copyShows_28 rfl rfl (Nat.le_refl _) ⟨rfl, _, rfl, h⟩
  · replace h := h.2 c3
    refine r_aload_n (pc := 7) d_Md_copyShows_7 (x := a) rfl ?_
    refine r_iconst (pc := 8) d_Md_copyShows_8 (v := 1) (by decide) ?_
    refine r_callV (pc := 9) (k := a) (As := [.int 1]) (rest := []) (mc' := 0) (ms' := 0) lk_Md_118 in_Md_refuse se_Md_refuse sa rfl d_Md_copyShows_9 k_Md_refuse rfl rfl (Nat.le_of_ble_eq_true rfl) (by decide) (by decide) (Sp.mono h ?_)
    rintro rS17 shS17 S17 ⟨qS17, x18, uS17, h⟩
    subst uS17
    rw [qS17]
    exact r_ireturn (pc := 12) d_Md_copyShows_12 rfl rfl (Nat.le_refl _) ⟨rfl, _, rfl, h⟩
set_option maxRecDepth 4000 in
theorem s_Md_copyShows_51 {l : Launch} {d : Nat} {sh : aw_SH} {S : aw_S} {P : Int32 → aw_S → Prop} {a : Nat} {i1 : Int32} {i2 : Int32} (sa : sh[a]? = some (0, 11)) (h : Sp l m_Md_gapsOf d 0 0 [.ref a, .int 0] sh S (gI sh (fun x2 S1 => ((x2 ≤ i2 → Sp l m_Md_gapsOf d 0 0 [.ref a, .int 0] sh S1 (gI sh (fun x5 S4 => Sp l m_Md_gives d 0 0 [.ref a, .int x5] sh S4 (gI sh (fun x7 S6 => P x7 S6))))) ∧ (¬ x2 ≤ i2 → ∃ r8, S1.2.2 a 7 = some r8 ∧ Sp l m_Md_showsOf d 0 0 [.ref a, .int i2] sh S1 (gI sh (fun x10 S9 => ∃ r11, S9.2.2 a 5 = some r11 ∧ ∃ n13, sh[r11]? = some (3, n13) ∧ vp_in i1 n13 ∧ Sp l m_Md_cut d 0 0 [.long x10.toInt64, .int (S9.1 r11 i1.toNatClampNeg)] sh S9 (gL sh (fun x16 S15 => ∃ n18, sh[r8]? = some (4, n18) ∧ vp_in (((60 : Int32) * i1) + i2) n18 ∧ AW l m_Md_copyShows (d + 1) 0 0 (gI sh P) 0 0 51 [.ref a, .int i1, .int (i2 + 1)] [] sh (aw_uL S15 r8 ((((60 : Int32) * i1) + i2 : Int32).toNatClampNeg) x16)))))))))) : AW l m_Md_copyShows (d + 1) 0 0 (gI sh P) 0 0 51 [.ref a, .int i1, .int i2] [] sh S := by
  refine r_iload_n (pc := 51) d_Md_copyShows_51 (x := i2) rfl ?_
  refine r_aload_n (pc := 52) d_Md_copyShows_52 (x := a) rfl ?_
  refine r_iconst (pc := 53) d_Md_copyShows_53 (v := 0) (by decide) ?_
  refine r_callV (pc := 54) (k := a) (As := [.int 0]) (rest := [.int i2]) (mc' := 0) (ms' := 0) lk_Md_260 in_Md_gapsOf se_Md_gapsOf sa rfl d_Md_copyShows_54 k_Md_gapsOf rfl rfl (Nat.le_of_ble_eq_true rfl) (by decide) (by decide) (Sp.mono h ?_)
  rintro rS1 shS1 S1 ⟨qS1, x2, uS1, h⟩
  subst uS1
  rw [qS1]
  refine r_icmp_ge (pc := 57) d_Md_copyShows_57 (tgt := 92) (by decide) (fun c3 => ?_) (fun c3 => ?_)
  · replace h := h.1 c3
    refine r_aload_n (pc := 92) d_Md_copyShows_92 (x := a) rfl ?_
    refine r_aload_n (pc := 93) d_Md_copyShows_93 (x := a) rfl ?_
    refine r_iconst (pc := 94) d_Md_copyShows_94 (v := 0) (by decide) ?_
    refine r_callV (pc := 95) (k := a) (As := [.int 0]) (rest := [.ref a]) (mc' := 0) (ms' := 0) lk_Md_260 in_Md_gapsOf se_Md_gapsOf sa rfl d_Md_copyShows_95 k_Md_gapsOf rfl rfl (Nat.le_of_ble_eq_true rfl) (by decide) (by decide) (Sp.mono h ?_)
    rintro rS4 shS4 S4 ⟨qS4, x5, uS4, h⟩
    subst uS4
    rw [qS4]
    refine r_callV (pc := 98) (k := a) (As := [.int x5]) (rest := []) (mc' := 0) (ms' := 0) lk_Md_122 in_Md_gives se_Md_gives sa rfl d_Md_copyShows_98 k_Md_gives rfl rfl (Nat.le_of_ble_eq_true rfl) (by decide) (by decide) (Sp.mono h ?_)
    rintro rS6 shS6 S6 ⟨qS6, x7, uS6, h⟩
    subst uS6
    rw [qS6]
    exact r_ireturn (pc := 101) d_Md_copyShows_101 rfl rfl (Nat.le_refl _) ⟨rfl, _, rfl, h⟩
  · replace h := h.2 c3
    refine r_aload_n (pc := 60) d_Md_copyShows_60 (x := a) rfl ?_
    obtain ⟨r8, er8, h⟩ := h
    refine r_getR (pc := 61) d_Md_copyShows_61 f_Md_27 sa (Or.inr ⟨_, rfl⟩) (r := r8) er8 ?_
    refine r_bipush (pc := 64) d_Md_copyShows_64 (v := 60) (by decide) ?_
    refine r_iload_n (pc := 66) d_Md_copyShows_66 (x := i1) rfl ?_
    refine r_imul (pc := 67) d_Md_copyShows_67 ?_
    refine r_iload_n (pc := 68) d_Md_copyShows_68 (x := i2) rfl ?_
    refine r_iadd (pc := 69) d_Md_copyShows_69 ?_
    refine r_aload_n (pc := 70) d_Md_copyShows_70 (x := a) rfl ?_
    refine r_iload_n (pc := 71) d_Md_copyShows_71 (x := i2) rfl ?_
    refine r_callV (pc := 72) (k := a) (As := [.int i2]) (rest := [.int (((60 : Int32) * i1) + i2), .ref r8]) (mc' := 0) (ms' := 0) lk_Md_319 in_Md_showsOf se_Md_showsOf sa rfl d_Md_copyShows_72 k_Md_showsOf rfl rfl (Nat.le_of_ble_eq_true rfl) (by decide) (by decide) (Sp.mono h ?_)
    rintro rS9 shS9 S9 ⟨qS9, x10, uS9, h⟩
    subst uS9
    rw [qS9]
    refine r_i2l (pc := 75) d_Md_copyShows_75 ?_
    refine r_aload_n (pc := 76) d_Md_copyShows_76 (x := a) rfl ?_
    obtain ⟨r11, er11, h⟩ := h
    refine r_getR (pc := 77) d_Md_copyShows_77 f_Md_21 sa (Or.inr ⟨_, rfl⟩) (r := r11) er11 ?_
    refine r_iload_n (pc := 80) d_Md_copyShows_80 (x := i1) rfl ?_
    obtain ⟨n13, s12, h⟩ := h
    obtain ⟨g14, h⟩ := h
    refine r_iald (pc := 81) d_Md_copyShows_81 s12 g14 ?_
    refine r_callS (pc := 82) (k := 0) (As := [.long x10.toInt64, .int (S9.1 r11 i1.toNatClampNeg)]) (rest := [.int (((60 : Int32) * i1) + i2), .ref r8]) (mc' := 0) (ms' := 0) lk_Md_136 st_Md_cut d_Md_copyShows_82 k_Md_cut rfl rfl (Nat.le_of_ble_eq_true rfl) (by decide) (by decide) (Sp.mono h ?_)
    rintro rS15 shS15 S15 ⟨qS15, x16, uS15, h⟩
    subst uS15
    rw [qS15]
    obtain ⟨n18, s17, h⟩ := h
    obtain ⟨g19, h⟩ := h
    refine r_last (pc := 85) d_Md_copyShows_85 s17 g19 ?_
    refine r_iinc (pc := 86) d_Md_copyShows_86 (hi := by decide) (x := i2) rfl (v := i2 + 1) rfl (ls2 := [.ref a, .int i1, .int (i2 + 1)]) rfl ?_
    refine r_goto (pc := 89) d_Md_copyShows_89 (tgt := 51) (by decide) ?_
    exact h
set_option maxRecDepth 4000 in
theorem e_Md_live {l : Launch} {d : Nat} {sh : aw_SH} {S : aw_S} {P : Int32 → aw_S → Prop} {a : Nat} {p0 : Int32} (sa : sh[a]? = some (0, 11)) (h : Sp l m_Md_isFrom d 0 0 [.long p0.toInt64, .long 0, .long 9999] sh S (gI sh (fun x2 S1 => ((¬ x2 = 0 → ∃ r4, S1.2.2 a 0 = some r4 ∧ ∃ n6, sh[r4]? = some (3, n6) ∧ vp_in 5 n6 ∧ ((¬ (S1.1 r4 (5 : Int32).toNatClampNeg) = (-1) → Sp l m_Md_lives d 0 0 [.ref a, .int p0] sh S1 (gV sh (fun S9 => AW l m_Md_live (d + 1) 0 0 (gI sh P) 0 0 42 [.ref a, .null, .int 0] [] sh S9))) ∧ ((S1.1 r4 (5 : Int32).toNatClampNeg) = (-1) → Sp l m_Md_refuse d 0 0 [.ref a, .int 6] sh S1 (gI sh (fun x11 S10 => P x11 S10))))) ∧ (x2 = 0 → Sp l m_Md_refuse d 0 0 [.ref a, .int 1] sh S1 (gI sh (fun x13 S12 => P x13 S12))))))) : Sp l m_Md_live (d + 1) 0 0 [.ref a, .int p0] sh S (gI sh P) := by
  refine Sp.of k_Md_live (ls := [.ref a, .int p0, .null]) rfl (Nat.le_of_ble_eq_true rfl) ?_
  refine r_iload_n (pc := 0) d_Md_live_0 (x := p0) rfl ?_
  refine r_i2l (pc := 1) d_Md_live_1 ?_
  refine r_lconst (pc := 2) d_Md_live_2 (v := 0) (by decide) ?_
  refine r_ldc2 (pc := 3) d_Md_live_3 cl_Md_514 ?_
  refine r_callS (pc := 6) (k := 0) (As := [.long p0.toInt64, .long 0, .long 9999]) (rest := []) (mc' := 0) (ms' := 0) lk_Md_372 st_Md_isFrom d_Md_live_6 k_Md_isFrom rfl rfl (Nat.le_of_ble_eq_true rfl) (by decide) (by decide) (Sp.mono h ?_)
  rintro rS1 shS1 S1 ⟨qS1, x2, uS1, h⟩
  subst uS1
  rw [qS1]
  refine r_if_ne (pc := 9) d_Md_live_9 (tgt := 18) (by decide) (fun c3 => ?_) (fun c3 => ?_)
  · replace h := h.1 c3
    refine r_aload_n (pc := 18) d_Md_live_18 (x := a) rfl ?_
    obtain ⟨r4, er4, h⟩ := h
    refine r_getR (pc := 19) d_Md_live_19 f_Md_7 sa (Or.inr ⟨_, rfl⟩) (r := r4) er4 ?_
    refine r_iconst (pc := 22) d_Md_live_22 (v := 5) (by decide) ?_
    obtain ⟨n6, s5, h⟩ := h
    obtain ⟨g7, h⟩ := h
    refine r_iald (pc := 23) d_Md_live_23 s5 g7 ?_
    refine r_iconst (pc := 24) d_Md_live_24 (v := (-1)) (by decide) ?_
    refine r_icmp_ne (pc := 25) d_Md_live_25 (tgt := 35) (by decide) (fun c8 => ?_) (fun c8 => ?_)
    · replace h := h.1 c8
      refine r_aload_n (pc := 35) d_Md_live_35 (x := a) rfl ?_
      refine r_iload_n (pc := 36) d_Md_live_36 (x := p0) rfl ?_
      refine r_callV (pc := 37) (k := a) (As := [.int p0]) (rest := []) (mc' := 0) (ms' := 0) lk_Md_516 in_Md_lives se_Md_lives sa rfl d_Md_live_37 k_Md_lives rfl rfl (Nat.le_of_ble_eq_true rfl) (by decide) (by decide) (Sp.mono h ?_)
      rintro rS9 shS9 S9 ⟨qS9, uS9, h⟩
      subst uS9
      rw [qS9]
      refine r_iconst (pc := 40) d_Md_live_40 (v := 0) (by decide) ?_
      refine r_istore_n (pc := 41) (hk := rfl) (hd := d_Md_live_41) (hi := by decide) (ls2 := [.ref a, .int p0, .int 0]) (h2 := rfl) ?_
      exact r_weak (ls2 := [.ref a, .null, .int 0]) ⟨Or.inr rfl, Or.inl rfl, Or.inr rfl, trivial⟩ h
    · replace h := h.2 c8
      refine r_aload_n (pc := 28) d_Md_live_28 (x := a) rfl ?_
      refine r_bipush (pc := 29) d_Md_live_29 (v := 6) (by decide) ?_
      refine r_callV (pc := 31) (k := a) (As := [.int 6]) (rest := []) (mc' := 0) (ms' := 0) lk_Md_118 in_Md_refuse se_Md_refuse sa rfl d_Md_live_31 k_Md_refuse rfl rfl (Nat.le_of_ble_eq_true rfl) (by decide) (by decide) (Sp.mono h ?_)
      rintro rS10 shS10 S10 ⟨qS10, x11, uS10, h⟩
      subst uS10
      rw [qS10]
      exact r_ireturn (pc := 34) d_Md_live_34 rfl rfl (Nat.le_refl _) ⟨rfl, _, rfl, h⟩
  · replace h := h.2 c3
    refine r_aload_n (pc := 12) d_Md_live_12 (x := a) rfl ?_
    refine r_iconst (pc := 13) d_Md_live_13 (v := 1) (by decide) ?_
    refine r_callV (pc := 14) (k := a) (As := [.int 1]) (rest := []) (mc' := 0) (ms' := 0) lk_Md_118 in_Md_refuse se_Md_refuse sa rfl d_Md_live_14 k_Md_refuse rfl rfl (Nat.le_of_ble_eq_true rfl) (by decide) (by decide) (Sp.mono h ?_)
    rintro rS12 shS12 S12 ⟨qS12, x13, uS12, h⟩
    subst uS12
    rw [qS12]
    exact r_ireturn (pc := 17) d_Md_live_17 rfl rfl (Nat.le_refl _) ⟨rfl, _, rfl, h⟩
set_option maxRecDepth 4000 in
theorem s_Md_live_42 {l : Launch} {d : Nat} {sh : aw_SH} {S : aw_S} {P : Int32 → aw_S → Prop} {a : Nat} {i2 : Int32} (sa : sh[a]? = some (0, 11)) (h : ((5 ≤ i2 → Sp l m_Md_gives d 0 0 [.ref a, .int ((aw_uI S a 50 1).1 a 46)] sh (aw_uI S a 50 1) (gI sh (fun x3 S2 => P x3 S2))) ∧ (¬ 5 ≤ i2 → ∃ r4, S.2.2 a 49 = some r4 ∧ ∃ r5, S.2.2 a 48 = some r5 ∧ ∃ n7, sh[r5]? = some (3, n7) ∧ vp_in i2 n7 ∧ ∃ n10, sh[r4]? = some (3, n10) ∧ vp_in i2 n10 ∧ AW l m_Md_live (d + 1) 0 0 (gI sh P) 0 0 42 [.ref a, .null, .int (i2 + 1)] [] sh (aw_uI S r4 i2.toNatClampNeg (S.1 r5 i2.toNatClampNeg))))) : AW l m_Md_live (d + 1) 0 0 (gI sh P) 0 0 42 [.ref a, .null, .int i2] [] sh S := by
  refine r_iload_n (pc := 42) d_Md_live_42 (x := i2) rfl ?_
  refine r_iconst (pc := 43) d_Md_live_43 (v := 5) (by decide) ?_
  refine r_icmp_ge (pc := 44) d_Md_live_44 (tgt := 65) (by decide) (fun c1 => ?_) (fun c1 => ?_)
  · replace h := h.1 c1
    refine r_aload_n (pc := 65) d_Md_live_65 (x := a) rfl ?_
    refine r_iconst (pc := 66) d_Md_live_66 (v := 1) (by decide) ?_
    refine r_putZ (pc := 67) d_Md_live_67 f_Md_519 sa rfl (by decide) ?_
    refine r_aload_n (pc := 70) d_Md_live_70 (x := a) rfl ?_
    refine r_aload_n (pc := 71) d_Md_live_71 (x := a) rfl ?_
    refine r_getI (pc := 72) d_Md_live_72 f_Md_502 sa rfl ?_
    refine r_callV (pc := 75) (k := a) (As := [.int ((aw_uI S a 50 1).1 a 46)]) (rest := []) (mc' := 0) (ms' := 0) lk_Md_122 in_Md_gives se_Md_gives sa rfl d_Md_live_75 k_Md_gives rfl rfl (Nat.le_of_ble_eq_true rfl) (by decide) (by decide) (Sp.mono h ?_)
    rintro rS2 shS2 S2 ⟨qS2, x3, uS2, h⟩
    subst uS2
    rw [qS2]
    exact r_ireturn (pc := 78) d_Md_live_78 rfl rfl (Nat.le_refl _) ⟨rfl, _, rfl, h⟩
  · replace h := h.2 c1
    refine r_aload_n (pc := 47) d_Md_live_47 (x := a) rfl ?_
    obtain ⟨r4, er4, h⟩ := h
    refine r_getR (pc := 48) d_Md_live_48 f_Md_105 sa (Or.inr ⟨_, rfl⟩) (r := r4) er4 ?_
    refine r_iload_n (pc := 51) d_Md_live_51 (x := i2) rfl ?_
    refine r_aload_n (pc := 52) d_Md_live_52 (x := a) rfl ?_
    obtain ⟨r5, er5, h⟩ := h
    refine r_getR (pc := 53) d_Md_live_53 f_Md_102 sa (Or.inr ⟨_, rfl⟩) (r := r5) er5 ?_
    refine r_iload_n (pc := 56) d_Md_live_56 (x := i2) rfl ?_
    obtain ⟨n7, s6, h⟩ := h
    obtain ⟨g8, h⟩ := h
    refine r_iald (pc := 57) d_Md_live_57 s6 g8 ?_
    obtain ⟨n10, s9, h⟩ := h
    obtain ⟨g11, h⟩ := h
    refine r_iast (pc := 58) d_Md_live_58 s9 g11 ?_
    refine r_iinc (pc := 59) d_Md_live_59 (hi := by decide) (x := i2) rfl (v := i2 + 1) rfl (ls2 := [.ref a, .null, .int (i2 + 1)]) rfl ?_
    refine r_goto (pc := 62) d_Md_live_62 (tgt := 42) (by decide) ?_
    exact h
set_option maxRecDepth 4000 in
theorem e_Md_lives {l : Launch} {d : Nat} {sh : aw_SH} {S : aw_S} {P : aw_S → Prop} {a : Nat} {p0 : Int32} (sa : sh[a]? = some (0, 11)) (h : AW l m_Md_lives (d + 1) 0 0 (gV sh P) 0 0 12 [.ref a, .null, .int 0, .null] [] sh (aw_uI (aw_uI S a 45 p0) a 46 0)) : Sp l m_Md_lives (d + 1) 0 0 [.ref a, .int p0] sh S (gV sh P) := by
  refine Sp.of k_Md_lives (ls := [.ref a, .int p0, .null, .null]) rfl (Nat.le_of_ble_eq_true rfl) ?_
  refine r_aload_n (pc := 0) d_Md_lives_0 (x := a) rfl ?_
  refine r_iload_n (pc := 1) d_Md_lives_1 (x := p0) rfl ?_
  refine r_putI (pc := 2) d_Md_lives_2 f_Md_483 sa rfl ?_
  refine r_aload_n (pc := 5) d_Md_lives_5 (x := a) rfl ?_
  refine r_iconst (pc := 6) d_Md_lives_6 (v := 0) (by decide) ?_
  refine r_putI (pc := 7) d_Md_lives_7 f_Md_502 sa rfl ?_
  refine r_iconst (pc := 10) d_Md_lives_10 (v := 0) (by decide) ?_
  refine r_istore_n (pc := 11) (hk := rfl) (hd := d_Md_lives_11) (hi := by decide) (ls2 := [.ref a, .int p0, .int 0, .null]) (h2 := rfl) ?_
  exact r_weak (ls2 := [.ref a, .null, .int 0, .null]) ⟨Or.inr rfl, Or.inl rfl, Or.inr rfl, Or.inl rfl, trivial⟩ h
set_option maxRecDepth 4000 in
theorem s_Md_lives_12 {l : Launch} {d : Nat} {sh : aw_SH} {S : aw_S} {P : aw_S → Prop} {a : Nat} {i2 : Int32} (sa : sh[a]? = some (0, 11)) (h : ((5 ≤ i2 → AW l m_Md_lives (d + 1) 0 0 (gV sh P) 0 0 32 [.ref a, .null, .int 0, .null] [] sh S) ∧ (¬ 5 ≤ i2 → ∃ r2, S.2.2 a 48 = some r2 ∧ ∃ n4, sh[r2]? = some (3, n4) ∧ vp_in i2 n4 ∧ AW l m_Md_lives (d + 1) 0 0 (gV sh P) 0 0 12 [.ref a, .null, .int (i2 + 1), .null] [] sh (aw_uI S r2 i2.toNatClampNeg 0)))) : AW l m_Md_lives (d + 1) 0 0 (gV sh P) 0 0 12 [.ref a, .null, .int i2, .null] [] sh S := by
  refine r_iload_n (pc := 12) d_Md_lives_12 (x := i2) rfl ?_
  refine r_iconst (pc := 13) d_Md_lives_13 (v := 5) (by decide) ?_
  refine r_icmp_ge (pc := 14) d_Md_lives_14 (tgt := 30) (by decide) (fun c1 => ?_) (fun c1 => ?_)
  · replace h := h.1 c1
    refine r_iconst (pc := 30) d_Md_lives_30 (v := 0) (by decide) ?_
    refine r_istore_n (pc := 31) (hk := rfl) (hd := d_Md_lives_31) (hi := by decide) (ls2 := [.ref a, .null, .int 0, .null]) (h2 := rfl) ?_
    exact h
  · replace h := h.2 c1
    refine r_aload_n (pc := 17) d_Md_lives_17 (x := a) rfl ?_
    obtain ⟨r2, er2, h⟩ := h
    refine r_getR (pc := 18) d_Md_lives_18 f_Md_102 sa (Or.inr ⟨_, rfl⟩) (r := r2) er2 ?_
    refine r_iload_n (pc := 21) d_Md_lives_21 (x := i2) rfl ?_
    refine r_iconst (pc := 22) d_Md_lives_22 (v := 0) (by decide) ?_
    obtain ⟨n4, s3, h⟩ := h
    obtain ⟨g5, h⟩ := h
    refine r_iast (pc := 23) d_Md_lives_23 s3 g5 ?_
    refine r_iinc (pc := 24) d_Md_lives_24 (hi := by decide) (x := i2) rfl (v := i2 + 1) rfl (ls2 := [.ref a, .null, .int (i2 + 1), .null]) rfl ?_
    refine r_goto (pc := 27) d_Md_lives_27 (tgt := 12) (by decide) ?_
    exact h
set_option maxRecDepth 4000 in
theorem s_Md_lives_32 {l : Launch} {d : Nat} {sh : aw_SH} {S : aw_S} {P : aw_S → Prop} {a : Nat} {i2 : Int32} (sa : sh[a]? = some (0, 11)) (h : ∃ r1, S.2.2 a 0 = some r1 ∧ ∃ n3, sh[r1]? = some (3, n3) ∧ vp_in 5 n3 ∧ (((S.1 r1 (5 : Int32).toNatClampNeg) ≤ i2 → P S) ∧ (¬ (S.1 r1 (5 : Int32).toNatClampNeg) ≤ i2 → ((¬ (S.1 a 46) = 300 → vp_in ((184 : Int32) + ((6 : Int32) * i2)) n3 ∧ ((¬ ((aw_uI S a 46 ((S.1 a 46) + (1 : Int32))).1 r1 ((184 : Int32) + ((6 : Int32) * i2) : Int32).toNatClampNeg) = 14 → ∃ r9, (aw_uI S a 46 ((S.1 a 46) + (1 : Int32))).2.2 a 48 = some r9 ∧ ∃ n11, sh[r9]? = some (3, n11) ∧ vp_in 0 n11 ∧ Sp l m_Md_does d 0 0 [.ref a, .int ((184 : Int32) + ((6 : Int32) * i2))] sh (aw_uI S a 46 ((S.1 a 46) + (1 : Int32))) (gI sh (fun x14 S13 => ((x14 = 0 → vp_in 0 n11 ∧ ∃ r17, (aw_uI S13 r9 ((0 : Int32).toNatClampNeg) (((aw_uI S a 46 ((S.1 a 46) + (1 : Int32))).1 r9 (0 : Int32).toNatClampNeg) + (1 : Int32))).2.2 a 0 = some r17 ∧ ∃ n19, sh[r17]? = some (3, n19) ∧ vp_in ((184 : Int32) + ((6 : Int32) * i2)) n19 ∧ ((¬ ((aw_uI S13 r9 ((0 : Int32).toNatClampNeg) (((aw_uI S a 46 ((S.1 a 46) + (1 : Int32))).1 r9 (0 : Int32).toNatClampNeg) + (1 : Int32))).1 r17 ((184 : Int32) + ((6 : Int32) * i2) : Int32).toNatClampNeg) = 12 → vp_in ((184 : Int32) + ((6 : Int32) * i2)) n19 ∧ ((((aw_uI S13 r9 ((0 : Int32).toNatClampNeg) (((aw_uI S a 46 ((S.1 a 46) + (1 : Int32))).1 r9 (0 : Int32).toNatClampNeg) + (1 : Int32))).1 r17 ((184 : Int32) + ((6 : Int32) * i2) : Int32).toNatClampNeg) < 1100 → Sp l m_Md_behindEnds d 0 0 [.ref a, .int (i2 + (1 : Int32))] sh (aw_uI S13 r9 ((0 : Int32).toNatClampNeg) (((aw_uI S a 46 ((S.1 a 46) + (1 : Int32))).1 r9 (0 : Int32).toNatClampNeg) + (1 : Int32))) (gI sh (fun x25 S24 => AW l m_Md_lives (d + 1) 0 0 (gV sh P) 0 0 32 [.ref a, .null, .int x25, .null] [] sh S24))) ∧ (¬ ((aw_uI S13 r9 ((0 : Int32).toNatClampNeg) (((aw_uI S a 46 ((S.1 a 46) + (1 : Int32))).1 r9 (0 : Int32).toNatClampNeg) + (1 : Int32))).1 r17 ((184 : Int32) + ((6 : Int32) * i2) : Int32).toNatClampNeg) < 1100 → Sp l m_Md_holds d 0 0 [.ref a, .int ((184 : Int32) + ((6 : Int32) * i2))] sh (aw_uI S13 r9 ((0 : Int32).toNatClampNeg) (((aw_uI S a 46 ((S.1 a 46) + (1 : Int32))).1 r9 (0 : Int32).toNatClampNeg) + (1 : Int32))) (gI sh (fun x27 S26 => ((¬ x27 = 0 → Sp l m_Md_behindEnds d 0 0 [.ref a, .int (i2 + (1 : Int32))] sh S26 (gI sh (fun x30 S29 => AW l m_Md_lives (d + 1) 0 0 (gV sh P) 0 0 32 [.ref a, .null, .int x30, .null] [] sh S29))) ∧ (x27 = 0 → ∃ r31, S26.2.2 a 0 = some r31 ∧ ∃ n33, sh[r31]? = some (3, n33) ∧ vp_in (((184 : Int32) + ((6 : Int32) * i2)) + (4 : Int32)) n33 ∧ Sp l m_Md_behindEnds d 0 0 [.ref a, .int ((S26.1 r31 (((184 : Int32) + ((6 : Int32) * i2)) + (4 : Int32) : Int32).toNatClampNeg) + (1 : Int32))] sh S26 (gI sh (fun x36 S35 => AW l m_Md_lives (d + 1) 0 0 (gV sh P) 0 0 32 [.ref a, .null, .int x36, .null] [] sh S35))))))))) ∧ (((aw_uI S13 r9 ((0 : Int32).toNatClampNeg) (((aw_uI S a 46 ((S.1 a 46) + (1 : Int32))).1 r9 (0 : Int32).toNatClampNeg) + (1 : Int32))).1 r17 ((184 : Int32) + ((6 : Int32) * i2) : Int32).toNatClampNeg) = 12 → ∃ r37, (aw_uI S13 r9 ((0 : Int32).toNatClampNeg) (((aw_uI S a 46 ((S.1 a 46) + (1 : Int32))).1 r9 (0 : Int32).toNatClampNeg) + (1 : Int32))).2.2 a 47 = some r37 ∧ vp_in (((184 : Int32) + ((6 : Int32) * i2)) + (1 : Int32)) n19 ∧ ∃ n40, sh[r37]? = some (3, n40) ∧ vp_in i2 n40 ∧ vp_in ((184 : Int32) + ((6 : Int32) * i2)) n19 ∧ ((((aw_uI (aw_uI S13 r9 ((0 : Int32).toNatClampNeg) (((aw_uI S a 46 ((S.1 a 46) + (1 : Int32))).1 r9 (0 : Int32).toNatClampNeg) + (1 : Int32))) r37 i2.toNatClampNeg (((aw_uI S13 r9 ((0 : Int32).toNatClampNeg) (((aw_uI S a 46 ((S.1 a 46) + (1 : Int32))).1 r9 (0 : Int32).toNatClampNeg) + (1 : Int32))).1 r17 (((184 : Int32) + ((6 : Int32) * i2)) + (1 : Int32) : Int32).toNatClampNeg) - (1 : Int32))).1 r17 ((184 : Int32) + ((6 : Int32) * i2) : Int32).toNatClampNeg) < 1100 → Sp l m_Md_behindEnds d 0 0 [.ref a, .int (i2 + (1 : Int32))] sh (aw_uI (aw_uI S13 r9 ((0 : Int32).toNatClampNeg) (((aw_uI S a 46 ((S.1 a 46) + (1 : Int32))).1 r9 (0 : Int32).toNatClampNeg) + (1 : Int32))) r37 i2.toNatClampNeg (((aw_uI S13 r9 ((0 : Int32).toNatClampNeg) (((aw_uI S a 46 ((S.1 a 46) + (1 : Int32))).1 r9 (0 : Int32).toNatClampNeg) + (1 : Int32))).1 r17 (((184 : Int32) + ((6 : Int32) * i2)) + (1 : Int32) : Int32).toNatClampNeg) - (1 : Int32))) (gI sh (fun x45 S44 => AW l m_Md_lives (d + 1) 0 0 (gV sh P) 0 0 32 [.ref a, .null, .int x45, .null] [] sh S44))) ∧ (¬ ((aw_uI (aw_uI S13 r9 ((0 : Int32).toNatClampNeg) (((aw_uI S a 46 ((S.1 a 46) + (1 : Int32))).1 r9 (0 : Int32).toNatClampNeg) + (1 : Int32))) r37 i2.toNatClampNeg (((aw_uI S13 r9 ((0 : Int32).toNatClampNeg) (((aw_uI S a 46 ((S.1 a 46) + (1 : Int32))).1 r9 (0 : Int32).toNatClampNeg) + (1 : Int32))).1 r17 (((184 : Int32) + ((6 : Int32) * i2)) + (1 : Int32) : Int32).toNatClampNeg) - (1 : Int32))).1 r17 ((184 : Int32) + ((6 : Int32) * i2) : Int32).toNatClampNeg) < 1100 → Sp l m_Md_holds d 0 0 [.ref a, .int ((184 : Int32) + ((6 : Int32) * i2))] sh (aw_uI (aw_uI S13 r9 ((0 : Int32).toNatClampNeg) (((aw_uI S a 46 ((S.1 a 46) + (1 : Int32))).1 r9 (0 : Int32).toNatClampNeg) + (1 : Int32))) r37 i2.toNatClampNeg (((aw_uI S13 r9 ((0 : Int32).toNatClampNeg) (((aw_uI S a 46 ((S.1 a 46) + (1 : Int32))).1 r9 (0 : Int32).toNatClampNeg) + (1 : Int32))).1 r17 (((184 : Int32) + ((6 : Int32) * i2)) + (1 : Int32) : Int32).toNatClampNeg) - (1 : Int32))) (gI sh (fun x47 S46 => ((¬ x47 = 0 → Sp l m_Md_behindEnds d 0 0 [.ref a, .int (i2 + (1 : Int32))] sh S46 (gI sh (fun x50 S49 => AW l m_Md_lives (d + 1) 0 0 (gV sh P) 0 0 32 [.ref a, .null, .int x50, .null] [] sh S49))) ∧ (x47 = 0 → ∃ r51, S46.2.2 a 0 = some r51 ∧ ∃ n53, sh[r51]? = some (3, n53) ∧ vp_in (((184 : Int32) + ((6 : Int32) * i2)) + (4 : Int32)) n53 ∧ Sp l m_Md_behindEnds d 0 0 [.ref a, .int ((S46.1 r51 (((184 : Int32) + ((6 : Int32) * i2)) + (4 : Int32) : Int32).toNatClampNeg) + (1 : Int32))] sh S46 (gI sh (fun x56 S55 => AW l m_Md_lives (d + 1) 0 0 (gV sh P) 0 0 32 [.ref a, .null, .int x56, .null] [] sh S55))))))))))) ∧ (¬ x14 = 0 → vp_in 0 n11 ∧ ∃ r58, (aw_uI S13 r9 ((0 : Int32).toNatClampNeg) (((aw_uI S a 46 ((S.1 a 46) + (1 : Int32))).1 r9 (0 : Int32).toNatClampNeg) + (0 : Int32))).2.2 a 0 = some r58 ∧ ∃ n60, sh[r58]? = some (3, n60) ∧ vp_in ((184 : Int32) + ((6 : Int32) * i2)) n60 ∧ ((¬ ((aw_uI S13 r9 ((0 : Int32).toNatClampNeg) (((aw_uI S a 46 ((S.1 a 46) + (1 : Int32))).1 r9 (0 : Int32).toNatClampNeg) + (0 : Int32))).1 r58 ((184 : Int32) + ((6 : Int32) * i2) : Int32).toNatClampNeg) = 12 → vp_in ((184 : Int32) + ((6 : Int32) * i2)) n60 ∧ ((((aw_uI S13 r9 ((0 : Int32).toNatClampNeg) (((aw_uI S a 46 ((S.1 a 46) + (1 : Int32))).1 r9 (0 : Int32).toNatClampNeg) + (0 : Int32))).1 r58 ((184 : Int32) + ((6 : Int32) * i2) : Int32).toNatClampNeg) < 1100 → Sp l m_Md_behindEnds d 0 0 [.ref a, .int (i2 + (1 : Int32))] sh (aw_uI S13 r9 ((0 : Int32).toNatClampNeg) (((aw_uI S a 46 ((S.1 a 46) + (1 : Int32))).1 r9 (0 : Int32).toNatClampNeg) + (0 : Int32))) (gI sh (fun x66 S65 => AW l m_Md_lives (d + 1) 0 0 (gV sh P) 0 0 32 [.ref a, .null, .int x66, .null] [] sh S65))) ∧ (¬ ((aw_uI S13 r9 ((0 : Int32).toNatClampNeg) (((aw_uI S a 46 ((S.1 a 46) + (1 : Int32))).1 r9 (0 : Int32).toNatClampNeg) + (0 : Int32))).1 r58 ((184 : Int32) + ((6 : Int32) * i2) : Int32).toNatClampNeg) < 1100 → Sp l m_Md_holds d 0 0 [.ref a, .int ((184 : Int32) + ((6 : Int32) * i2))] sh (aw_uI S13 r9 ((0 : Int32).toNatClampNeg) (((aw_uI S a 46 ((S.1 a 46) + (1 : Int32))).1 r9 (0 : Int32).toNatClampNeg) + (0 : Int32))) (gI sh (fun x68 S67 => ((¬ x68 = 0 → Sp l m_Md_behindEnds d 0 0 [.ref a, .int (i2 + (1 : Int32))] sh S67 (gI sh (fun x71 S70 => AW l m_Md_lives (d + 1) 0 0 (gV sh P) 0 0 32 [.ref a, .null, .int x71, .null] [] sh S70))) ∧ (x68 = 0 → ∃ r72, S67.2.2 a 0 = some r72 ∧ ∃ n74, sh[r72]? = some (3, n74) ∧ vp_in (((184 : Int32) + ((6 : Int32) * i2)) + (4 : Int32)) n74 ∧ Sp l m_Md_behindEnds d 0 0 [.ref a, .int ((S67.1 r72 (((184 : Int32) + ((6 : Int32) * i2)) + (4 : Int32) : Int32).toNatClampNeg) + (1 : Int32))] sh S67 (gI sh (fun x77 S76 => AW l m_Md_lives (d + 1) 0 0 (gV sh P) 0 0 32 [.ref a, .null, .int x77, .null] [] sh S76))))))))) ∧ (((aw_uI S13 r9 ((0 : Int32).toNatClampNeg) (((aw_uI S a 46 ((S.1 a 46) + (1 : Int32))).1 r9 (0 : Int32).toNatClampNeg) + (0 : Int32))).1 r58 ((184 : Int32) + ((6 : Int32) * i2) : Int32).toNatClampNeg) = 12 → ∃ r78, (aw_uI S13 r9 ((0 : Int32).toNatClampNeg) (((aw_uI S a 46 ((S.1 a 46) + (1 : Int32))).1 r9 (0 : Int32).toNatClampNeg) + (0 : Int32))).2.2 a 47 = some r78 ∧ vp_in (((184 : Int32) + ((6 : Int32) * i2)) + (1 : Int32)) n60 ∧ ∃ n81, sh[r78]? = some (3, n81) ∧ vp_in i2 n81 ∧ vp_in ((184 : Int32) + ((6 : Int32) * i2)) n60 ∧ ((((aw_uI (aw_uI S13 r9 ((0 : Int32).toNatClampNeg) (((aw_uI S a 46 ((S.1 a 46) + (1 : Int32))).1 r9 (0 : Int32).toNatClampNeg) + (0 : Int32))) r78 i2.toNatClampNeg (((aw_uI S13 r9 ((0 : Int32).toNatClampNeg) (((aw_uI S a 46 ((S.1 a 46) + (1 : Int32))).1 r9 (0 : Int32).toNatClampNeg) + (0 : Int32))).1 r58 (((184 : Int32) + ((6 : Int32) * i2)) + (1 : Int32) : Int32).toNatClampNeg) - (1 : Int32))).1 r58 ((184 : Int32) + ((6 : Int32) * i2) : Int32).toNatClampNeg) < 1100 → Sp l m_Md_behindEnds d 0 0 [.ref a, .int (i2 + (1 : Int32))] sh (aw_uI (aw_uI S13 r9 ((0 : Int32).toNatClampNeg) (((aw_uI S a 46 ((S.1 a 46) + (1 : Int32))).1 r9 (0 : Int32).toNatClampNeg) + (0 : Int32))) r78 i2.toNatClampNeg (((aw_uI S13 r9 ((0 : Int32).toNatClampNeg) (((aw_uI S a 46 ((S.1 a 46) + (1 : Int32))).1 r9 (0 : Int32).toNatClampNeg) + (0 : Int32))).1 r58 (((184 : Int32) + ((6 : Int32) * i2)) + (1 : Int32) : Int32).toNatClampNeg) - (1 : Int32))) (gI sh (fun x86 S85 => AW l m_Md_lives (d + 1) 0 0 (gV sh P) 0 0 32 [.ref a, .null, .int x86, .null] [] sh S85))) ∧ (¬ ((aw_uI (aw_uI S13 r9 ((0 : Int32).toNatClampNeg) (((aw_uI S a 46 ((S.1 a 46) + (1 : Int32))).1 r9 (0 : Int32).toNatClampNeg) + (0 : Int32))) r78 i2.toNatClampNeg (((aw_uI S13 r9 ((0 : Int32).toNatClampNeg) (((aw_uI S a 46 ((S.1 a 46) + (1 : Int32))).1 r9 (0 : Int32).toNatClampNeg) + (0 : Int32))).1 r58 (((184 : Int32) + ((6 : Int32) * i2)) + (1 : Int32) : Int32).toNatClampNeg) - (1 : Int32))).1 r58 ((184 : Int32) + ((6 : Int32) * i2) : Int32).toNatClampNeg) < 1100 → Sp l m_Md_holds d 0 0 [.ref a, .int ((184 : Int32) + ((6 : Int32) * i2))] sh (aw_uI (aw_uI S13 r9 ((0 : Int32).toNatClampNeg) (((aw_uI S a 46 ((S.1 a 46) + (1 : Int32))).1 r9 (0 : Int32).toNatClampNeg) + (0 : Int32))) r78 i2.toNatClampNeg (((aw_uI S13 r9 ((0 : Int32).toNatClampNeg) (((aw_uI S a 46 ((S.1 a 46) + (1 : Int32))).1 r9 (0 : Int32).toNatClampNeg) + (0 : Int32))).1 r58 (((184 : Int32) + ((6 : Int32) * i2)) + (1 : Int32) : Int32).toNatClampNeg) - (1 : Int32))) (gI sh (fun x88 S87 => ((¬ x88 = 0 → Sp l m_Md_behindEnds d 0 0 [.ref a, .int (i2 + (1 : Int32))] sh S87 (gI sh (fun x91 S90 => AW l m_Md_lives (d + 1) 0 0 (gV sh P) 0 0 32 [.ref a, .null, .int x91, .null] [] sh S90))) ∧ (x88 = 0 → ∃ r92, S87.2.2 a 0 = some r92 ∧ ∃ n94, sh[r92]? = some (3, n94) ∧ vp_in (((184 : Int32) + ((6 : Int32) * i2)) + (4 : Int32)) n94 ∧ Sp l m_Md_behindEnds d 0 0 [.ref a, .int ((S87.1 r92 (((184 : Int32) + ((6 : Int32) * i2)) + (4 : Int32) : Int32).toNatClampNeg) + (1 : Int32))] sh S87 (gI sh (fun x97 S96 => AW l m_Md_lives (d + 1) 0 0 (gV sh P) 0 0 32 [.ref a, .null, .int x97, .null] [] sh S96))))))))))))))) ∧ (((aw_uI S a 46 ((S.1 a 46) + (1 : Int32))).1 r1 ((184 : Int32) + ((6 : Int32) * i2) : Int32).toNatClampNeg) = 14 → P (aw_uI S a 46 ((S.1 a 46) + (1 : Int32)))))) ∧ ((S.1 a 46) = 300 → ∃ r98, S.2.2 a 48 = some r98 ∧ ∃ n100, sh[r98]? = some (3, n100) ∧ vp_in 4 n100 ∧ P (aw_uI S r98 ((4 : Int32).toNatClampNeg) 1)))))) : AW l m_Md_lives (d + 1) 0 0 (gV sh P) 0 0 32 [.ref a, .null, .int i2, .null] [] sh S := by
  refine r_iload_n (pc := 32) d_Md_lives_32 (x := i2) rfl ?_
  refine r_aload_n (pc := 33) d_Md_lives_33 (x := a) rfl ?_
  obtain ⟨r1, er1, h⟩ := h
  refine r_getR (pc := 34) d_Md_lives_34 f_Md_7 sa (Or.inr ⟨_, rfl⟩) (r := r1) er1 ?_
  refine r_iconst (pc := 37) d_Md_lives_37 (v := 5) (by decide) ?_
  obtain ⟨n3, s2, h⟩ := h
  obtain ⟨g4, h⟩ := h
  refine r_iald (pc := 38) d_Md_lives_38 s2 g4 ?_
  refine r_icmp_ge (pc := 39) d_Md_lives_39 (tgt := 184) (by decide) (fun c5 => ?_) (fun c5 => ?_)
  · replace h := h.1 c5
    exact r_return (pc := 184) d_Md_lives_184 rfl rfl (Nat.le_refl _) ⟨rfl, rfl, h⟩
  · replace h := h.2 c5
    refine r_aload_n (pc := 42) d_Md_lives_42 (x := a) rfl ?_
    refine r_getI (pc := 43) d_Md_lives_43 f_Md_502 sa rfl ?_
    refine r_sipush (pc := 46) d_Md_lives_46 (v := 300) (by decide) ?_
    refine r_icmp_ne (pc := 49) d_Md_lives_49 (tgt := 60) (by decide) (fun c6 => ?_) (fun c6 => ?_)
    · replace h := h.1 c6
      refine r_sipush (pc := 60) d_Md_lives_60 (v := 184) (by decide) ?_
      refine r_bipush (pc := 63) d_Md_lives_63 (v := 6) (by decide) ?_
      refine r_iload_n (pc := 65) d_Md_lives_65 (x := i2) rfl ?_
      refine r_imul (pc := 66) d_Md_lives_66 ?_
      refine r_iadd (pc := 67) d_Md_lives_67 ?_
      refine r_istore_n (pc := 68) (hk := rfl) (hd := d_Md_lives_68) (hi := by decide) (ls2 := [.ref a, .null, .int i2, .int ((184 : Int32) + ((6 : Int32) * i2))]) (h2 := rfl) ?_
      refine r_aload_n (pc := 69) d_Md_lives_69 (x := a) rfl ?_
      refine r_dup (pc := 70) d_Md_lives_70 rfl ?_
      refine r_getI (pc := 71) d_Md_lives_71 f_Md_502 sa rfl ?_
      refine r_iconst (pc := 74) d_Md_lives_74 (v := 1) (by decide) ?_
      refine r_iadd (pc := 75) d_Md_lives_75 ?_
      refine r_putI (pc := 76) d_Md_lives_76 f_Md_502 sa rfl ?_
      refine r_aload_n (pc := 79) d_Md_lives_79 (x := a) rfl ?_
      refine r_getR (pc := 80) d_Md_lives_80 f_Md_7 sa (Or.inr ⟨_, rfl⟩) (r := r1) er1 ?_
      refine r_iload_n (pc := 83) d_Md_lives_83 (x := ((184 : Int32) + ((6 : Int32) * i2))) rfl ?_
      obtain ⟨g7, h⟩ := h
      refine r_iald (pc := 84) d_Md_lives_84 s2 g7 ?_
      refine r_bipush (pc := 85) d_Md_lives_85 (v := 14) (by decide) ?_
      refine r_icmp_ne (pc := 87) d_Md_lives_87 (tgt := 91) (by decide) (fun c8 => ?_) (fun c8 => ?_)
      · replace h := h.1 c8
        refine r_aload_n (pc := 91) d_Md_lives_91 (x := a) rfl ?_
        obtain ⟨r9, er9, h⟩ := h
        refine r_getR (pc := 92) d_Md_lives_92 f_Md_102 sa (Or.inr ⟨_, rfl⟩) (r := r9) er9 ?_
        refine r_iconst (pc := 95) d_Md_lives_95 (v := 0) (by decide) ?_
        refine r_dup2 (pc := 96) d_Md_lives_96 rfl rfl ?_
        obtain ⟨n11, s10, h⟩ := h
        obtain ⟨g12, h⟩ := h
        refine r_iald (pc := 97) d_Md_lives_97 s10 g12 ?_
        refine r_aload_n (pc := 98) d_Md_lives_98 (x := a) rfl ?_
        refine r_iload_n (pc := 99) d_Md_lives_99 (x := ((184 : Int32) + ((6 : Int32) * i2))) rfl ?_
        refine r_callV (pc := 100) (k := a) (As := [.int ((184 : Int32) + ((6 : Int32) * i2))]) (rest := [.int ((aw_uI S a 46 ((S.1 a 46) + (1 : Int32))).1 r9 (0 : Int32).toNatClampNeg), .int 0, .ref r9]) (mc' := 0) (ms' := 0) lk_Md_505 in_Md_does se_Md_does sa rfl d_Md_lives_100 k_Md_does rfl rfl (Nat.le_of_ble_eq_true rfl) (by decide) (by decide) (Sp.mono h ?_)
        rintro rS13 shS13 S13 ⟨qS13, x14, uS13, h⟩
        subst uS13
        rw [qS13]
        refine r_if_eq (pc := 103) d_Md_lives_103 (tgt := 110) (by decide) (fun c15 => ?_) (fun c15 => ?_)
        · replace h := h.1 c15
          refine r_iconst (pc := 110) d_Md_lives_110 (v := 1) (by decide) ?_
          refine r_iadd (pc := 111) d_Md_lives_111 ?_
          obtain ⟨g16, h⟩ := h
          refine r_iast (pc := 112) d_Md_lives_112 s10 g16 ?_
          refine r_aload_n (pc := 113) d_Md_lives_113 (x := a) rfl ?_
          obtain ⟨r17, er17, h⟩ := h
          refine r_getR (pc := 114) d_Md_lives_114 f_Md_7 sa (Or.inr ⟨_, rfl⟩) (r := r17) er17 ?_
          refine r_iload_n (pc := 117) d_Md_lives_117 (x := ((184 : Int32) + ((6 : Int32) * i2))) rfl ?_
          obtain ⟨n19, s18, h⟩ := h
          obtain ⟨g20, h⟩ := h
          refine r_iald (pc := 118) d_Md_lives_118 s18 g20 ?_
          refine r_bipush (pc := 119) d_Md_lives_119 (v := 12) (by decide) ?_
          refine r_icmp_ne (pc := 121) d_Md_lives_121 (tgt := 140) (by decide) (fun c21 => ?_) (fun c21 => ?_)
          · replace h := h.1 c21
            refine r_aload_n (pc := 140) d_Md_lives_140 (x := a) rfl ?_
            refine r_aload_n (pc := 141) d_Md_lives_141 (x := a) rfl ?_
            refine r_getR (pc := 142) d_Md_lives_142 f_Md_7 sa (Or.inr ⟨_, rfl⟩) (r := r17) er17 ?_
            refine r_iload_n (pc := 145) d_Md_lives_145 (x := ((184 : Int32) + ((6 : Int32) * i2))) rfl ?_
            obtain ⟨g22, h⟩ := h
            refine r_iald (pc := 146) d_Md_lives_146 s18 g22 ?_
            refine r_sipush (pc := 147) d_Md_lives_147 (v := 1100) (by decide) ?_
            refine r_icmp_lt (pc := 150) d_Md_lives_150 (tgt := 174) (by decide) (fun c23 => ?_) (fun c23 => ?_)
            · replace h := h.1 c23
              refine r_iload_n (pc := 174) d_Md_lives_174 (x := i2) rfl ?_
              refine r_iconst (pc := 175) d_Md_lives_175 (v := 1) (by decide) ?_
              refine r_iadd (pc := 176) d_Md_lives_176 ?_
              refine r_callV (pc := 177) (k := a) (As := [.int (i2 + (1 : Int32))]) (rest := []) (mc' := 0) (ms' := 0) lk_Md_511 in_Md_behindEnds se_Md_behindEnds sa rfl d_Md_lives_177 k_Md_behindEnds rfl rfl (Nat.le_of_ble_eq_true rfl) (by decide) (by decide) (Sp.mono h ?_)
              rintro rS24 shS24 S24 ⟨qS24, x25, uS24, h⟩
              subst uS24
              rw [qS24]
              refine r_istore_n (pc := 180) (hk := rfl) (hd := d_Md_lives_180) (hi := by decide) (ls2 := [.ref a, .null, .int x25, .int ((184 : Int32) + ((6 : Int32) * i2))]) (h2 := rfl) ?_
              refine r_goto (pc := 181) d_Md_lives_181 (tgt := 32) (by decide) ?_
              exact r_weak (ls2 := [.ref a, .null, .int x25, .null]) ⟨Or.inr rfl, Or.inl rfl, Or.inr rfl, Or.inl rfl, trivial⟩ h
            · replace h := h.2 c23
              refine r_aload_n (pc := 153) d_Md_lives_153 (x := a) rfl ?_
              refine r_iload_n (pc := 154) d_Md_lives_154 (x := ((184 : Int32) + ((6 : Int32) * i2))) rfl ?_
              refine r_callV (pc := 155) (k := a) (As := [.int ((184 : Int32) + ((6 : Int32) * i2))]) (rest := [.ref a]) (mc' := 0) (ms' := 0) lk_Md_508 in_Md_holds se_Md_holds sa rfl d_Md_lives_155 k_Md_holds rfl rfl (Nat.le_of_ble_eq_true rfl) (by decide) (by decide) (Sp.mono h ?_)
              rintro rS26 shS26 S26 ⟨qS26, x27, uS26, h⟩
              subst uS26
              rw [qS26]
              refine r_if_ne (pc := 158) d_Md_lives_158 (tgt := 174) (by decide) (fun c28 => ?_) (fun c28 => ?_)
              · replace h := h.1 c28
                refine r_iload_n (pc := 174) d_Md_lives_174 (x := i2) rfl ?_
                refine r_iconst (pc := 175) d_Md_lives_175 (v := 1) (by decide) ?_
                refine r_iadd (pc := 176) d_Md_lives_176 ?_
                refine r_callV (pc := 177) (k := a) (As := [.int (i2 + (1 : Int32))]) (rest := []) (mc' := 0) (ms' := 0) lk_Md_511 in_Md_behindEnds se_Md_behindEnds sa rfl d_Md_lives_177 k_Md_behindEnds rfl rfl (Nat.le_of_ble_eq_true rfl) (by decide) (by decide) (Sp.mono h ?_)
                rintro rS29 shS29 S29 ⟨qS29, x30, uS29, h⟩
                subst uS29
                rw [qS29]
                refine r_istore_n (pc := 180) (hk := rfl) (hd := d_Md_lives_180) (hi := by decide) (ls2 := [.ref a, .null, .int x30, .int ((184 : Int32) + ((6 : Int32) * i2))]) (h2 := rfl) ?_
                refine r_goto (pc := 181) d_Md_lives_181 (tgt := 32) (by decide) ?_
                exact r_weak (ls2 := [.ref a, .null, .int x30, .null]) ⟨Or.inr rfl, Or.inl rfl, Or.inr rfl, Or.inl rfl, trivial⟩ h
              · replace h := h.2 c28
                refine r_aload_n (pc := 161) d_Md_lives_161 (x := a) rfl ?_
                obtain ⟨r31, er31, h⟩ := h
                refine r_getR (pc := 162) d_Md_lives_162 f_Md_7 sa (Or.inr ⟨_, rfl⟩) (r := r31) er31 ?_
                refine r_iload_n (pc := 165) d_Md_lives_165 (x := ((184 : Int32) + ((6 : Int32) * i2))) rfl ?_
                refine r_iconst (pc := 166) d_Md_lives_166 (v := 4) (by decide) ?_
                refine r_iadd (pc := 167) d_Md_lives_167 ?_
                obtain ⟨n33, s32, h⟩ := h
                obtain ⟨g34, h⟩ := h
                refine r_iald (pc := 168) d_Md_lives_168 s32 g34 ?_
                refine r_iconst (pc := 169) d_Md_lives_169 (v := 1) (by decide) ?_
                refine r_iadd (pc := 170) d_Md_lives_170 ?_
                refine r_goto (pc := 171) d_Md_lives_171 (tgt := 177) (by decide) ?_
                refine r_callV (pc := 177) (k := a) (As := [.int ((S26.1 r31 (((184 : Int32) + ((6 : Int32) * i2)) + (4 : Int32) : Int32).toNatClampNeg) + (1 : Int32))]) (rest := []) (mc' := 0) (ms' := 0) lk_Md_511 in_Md_behindEnds se_Md_behindEnds sa rfl d_Md_lives_177 k_Md_behindEnds rfl rfl (Nat.le_of_ble_eq_true rfl) (by decide) (by decide) (Sp.mono h ?_)
                rintro rS35 shS35 S35 ⟨qS35, x36, uS35, h⟩
                subst uS35
                rw [qS35]
                refine r_istore_n (pc := 180) (hk := rfl) (hd := d_Md_lives_180) (hi := by decide) (ls2 := [.ref a, .null, .int x36, .int ((184 : Int32) + ((6 : Int32) * i2))]) (h2 := rfl) ?_
                refine r_goto (pc := 181) d_Md_lives_181 (tgt := 32) (by decide) ?_
                exact r_weak (ls2 := [.ref a, .null, .int x36, .null]) ⟨Or.inr rfl, Or.inl rfl, Or.inr rfl, Or.inl rfl, trivial⟩ h
          · replace h := h.2 c21
            refine r_aload_n (pc := 124) d_Md_lives_124 (x := a) rfl ?_
            obtain ⟨r37, er37, h⟩ := h
            refine r_getR (pc := 125) d_Md_lives_125 f_Md_99 sa (Or.inr ⟨_, rfl⟩) (r := r37) er37 ?_
            refine r_iload_n (pc := 128) d_Md_lives_128 (x := i2) rfl ?_
            refine r_aload_n (pc := 129) d_Md_lives_129 (x := a) rfl ?_
            refine r_getR (pc := 130) d_Md_lives_130 f_Md_7 sa (Or.inr ⟨_, rfl⟩) (r := r17) er17 ?_
            refine r_iload_n (pc := 133) d_Md_lives_133 (x := ((184 : Int32) + ((6 : Int32) * i2))) rfl ?_
            refine r_iconst (pc := 134) d_Md_lives_134 (v := 1) (by decide) ?_
            refine r_iadd (pc := 135) d_Md_lives_135 ?_
            obtain ⟨g38, h⟩ := h
            refine r_iald (pc := 136) d_Md_lives_136 s18 g38 ?_
            refine r_iconst (pc := 137) d_Md_lives_137 (v := 1) (by decide) ?_
            refine r_isub (pc := 138) d_Md_lives_138 ?_
            obtain ⟨n40, s39, h⟩ := h
            obtain ⟨g41, h⟩ := h
            refine r_iast (pc := 139) d_Md_lives_139 s39 g41 ?_
            refine r_aload_n (pc := 140) d_Md_lives_140 (x := a) rfl ?_
            refine r_aload_n (pc := 141) d_Md_lives_141 (x := a) rfl ?_
            refine r_getR (pc := 142) d_Md_lives_142 f_Md_7 sa (Or.inr ⟨_, rfl⟩) (r := r17) er17 ?_
            refine r_iload_n (pc := 145) d_Md_lives_145 (x := ((184 : Int32) + ((6 : Int32) * i2))) rfl ?_
            obtain ⟨g42, h⟩ := h
            refine r_iald (pc := 146) d_Md_lives_146 s18 g42 ?_
            refine r_sipush (pc := 147) d_Md_lives_147 (v := 1100) (by decide) ?_
            refine r_icmp_lt (pc := 150) d_Md_lives_150 (tgt := 174) (by decide) (fun c43 => ?_) (fun c43 => ?_)
            · replace h := h.1 c43
              refine r_iload_n (pc := 174) d_Md_lives_174 (x := i2) rfl ?_
              refine r_iconst (pc := 175) d_Md_lives_175 (v := 1) (by decide) ?_
              refine r_iadd (pc := 176) d_Md_lives_176 ?_
              refine r_callV (pc := 177) (k := a) (As := [.int (i2 + (1 : Int32))]) (rest := []) (mc' := 0) (ms' := 0) lk_Md_511 in_Md_behindEnds se_Md_behindEnds sa rfl d_Md_lives_177 k_Md_behindEnds rfl rfl (Nat.le_of_ble_eq_true rfl) (by decide) (by decide) (Sp.mono h ?_)
              rintro rS44 shS44 S44 ⟨qS44, x45, uS44, h⟩
              subst uS44
              rw [qS44]
              refine r_istore_n (pc := 180) (hk := rfl) (hd := d_Md_lives_180) (hi := by decide) (ls2 := [.ref a, .null, .int x45, .int ((184 : Int32) + ((6 : Int32) * i2))]) (h2 := rfl) ?_
              refine r_goto (pc := 181) d_Md_lives_181 (tgt := 32) (by decide) ?_
              exact r_weak (ls2 := [.ref a, .null, .int x45, .null]) ⟨Or.inr rfl, Or.inl rfl, Or.inr rfl, Or.inl rfl, trivial⟩ h
            · replace h := h.2 c43
              refine r_aload_n (pc := 153) d_Md_lives_153 (x := a) rfl ?_
              refine r_iload_n (pc := 154) d_Md_lives_154 (x := ((184 : Int32) + ((6 : Int32) * i2))) rfl ?_
              refine r_callV (pc := 155) (k := a) (As := [.int ((184 : Int32) + ((6 : Int32) * i2))]) (rest := [.ref a]) (mc' := 0) (ms' := 0) lk_Md_508 in_Md_holds se_Md_holds sa rfl d_Md_lives_155 k_Md_holds rfl rfl (Nat.le_of_ble_eq_true rfl) (by decide) (by decide) (Sp.mono h ?_)
              rintro rS46 shS46 S46 ⟨qS46, x47, uS46, h⟩
              subst uS46
              rw [qS46]
              refine r_if_ne (pc := 158) d_Md_lives_158 (tgt := 174) (by decide) (fun c48 => ?_) (fun c48 => ?_)
              · replace h := h.1 c48
                refine r_iload_n (pc := 174) d_Md_lives_174 (x := i2) rfl ?_
                refine r_iconst (pc := 175) d_Md_lives_175 (v := 1) (by decide) ?_
                refine r_iadd (pc := 176) d_Md_lives_176 ?_
                refine r_callV (pc := 177) (k := a) (As := [.int (i2 + (1 : Int32))]) (rest := []) (mc' := 0) (ms' := 0) lk_Md_511 in_Md_behindEnds se_Md_behindEnds sa rfl d_Md_lives_177 k_Md_behindEnds rfl rfl (Nat.le_of_ble_eq_true rfl) (by decide) (by decide) (Sp.mono h ?_)
                rintro rS49 shS49 S49 ⟨qS49, x50, uS49, h⟩
                subst uS49
                rw [qS49]
                refine r_istore_n (pc := 180) (hk := rfl) (hd := d_Md_lives_180) (hi := by decide) (ls2 := [.ref a, .null, .int x50, .int ((184 : Int32) + ((6 : Int32) * i2))]) (h2 := rfl) ?_
                refine r_goto (pc := 181) d_Md_lives_181 (tgt := 32) (by decide) ?_
                exact r_weak (ls2 := [.ref a, .null, .int x50, .null]) ⟨Or.inr rfl, Or.inl rfl, Or.inr rfl, Or.inl rfl, trivial⟩ h
              · replace h := h.2 c48
                refine r_aload_n (pc := 161) d_Md_lives_161 (x := a) rfl ?_
                obtain ⟨r51, er51, h⟩ := h
                refine r_getR (pc := 162) d_Md_lives_162 f_Md_7 sa (Or.inr ⟨_, rfl⟩) (r := r51) er51 ?_
                refine r_iload_n (pc := 165) d_Md_lives_165 (x := ((184 : Int32) + ((6 : Int32) * i2))) rfl ?_
                refine r_iconst (pc := 166) d_Md_lives_166 (v := 4) (by decide) ?_
                refine r_iadd (pc := 167) d_Md_lives_167 ?_
                obtain ⟨n53, s52, h⟩ := h
                obtain ⟨g54, h⟩ := h
                refine r_iald (pc := 168) d_Md_lives_168 s52 g54 ?_
                refine r_iconst (pc := 169) d_Md_lives_169 (v := 1) (by decide) ?_
                refine r_iadd (pc := 170) d_Md_lives_170 ?_
                refine r_goto (pc := 171) d_Md_lives_171 (tgt := 177) (by decide) ?_
                refine r_callV (pc := 177) (k := a) (As := [.int ((S46.1 r51 (((184 : Int32) + ((6 : Int32) * i2)) + (4 : Int32) : Int32).toNatClampNeg) + (1 : Int32))]) (rest := []) (mc' := 0) (ms' := 0) lk_Md_511 in_Md_behindEnds se_Md_behindEnds sa rfl d_Md_lives_177 k_Md_behindEnds rfl rfl (Nat.le_of_ble_eq_true rfl) (by decide) (by decide) (Sp.mono h ?_)
                rintro rS55 shS55 S55 ⟨qS55, x56, uS55, h⟩
                subst uS55
                rw [qS55]
                refine r_istore_n (pc := 180) (hk := rfl) (hd := d_Md_lives_180) (hi := by decide) (ls2 := [.ref a, .null, .int x56, .int ((184 : Int32) + ((6 : Int32) * i2))]) (h2 := rfl) ?_
                refine r_goto (pc := 181) d_Md_lives_181 (tgt := 32) (by decide) ?_
                exact r_weak (ls2 := [.ref a, .null, .int x56, .null]) ⟨Or.inr rfl, Or.inl rfl, Or.inr rfl, Or.inl rfl, trivial⟩ h
        · replace h := h.2 c15
          refine r_iconst (pc := 106) d_Md_lives_106 (v := 0) (by decide) ?_
          refine r_goto (pc := 107) d_Md_lives_107 (tgt := 111) (by decide) ?_
          refine r_iadd (pc := 111) d_Md_lives_111 ?_
          obtain ⟨g57, h⟩ := h
          refine r_iast (pc := 112) d_Md_lives_112 s10 g57 ?_
          refine r_aload_n (pc := 113) d_Md_lives_113 (x := a) rfl ?_
          obtain ⟨r58, er58, h⟩ := h
          refine r_getR (pc := 114) d_Md_lives_114 f_Md_7 sa (Or.inr ⟨_, rfl⟩) (r := r58) er58 ?_
          refine r_iload_n (pc := 117) d_Md_lives_117 (x := ((184 : Int32) + ((6 : Int32) * i2))) rfl ?_
          obtain ⟨n60, s59, h⟩ := h
          obtain ⟨g61, h⟩ := h
          refine r_iald (pc := 118) d_Md_lives_118 s59 g61 ?_
          refine r_bipush (pc := 119) d_Md_lives_119 (v := 12) (by decide) ?_
          refine r_icmp_ne (pc := 121) d_Md_lives_121 (tgt := 140) (by decide) (fun c62 => ?_) (fun c62 => ?_)
          · replace h := h.1 c62
            refine r_aload_n (pc := 140) d_Md_lives_140 (x := a) rfl ?_
            refine r_aload_n (pc := 141) d_Md_lives_141 (x := a) rfl ?_
            refine r_getR (pc := 142) d_Md_lives_142 f_Md_7 sa (Or.inr ⟨_, rfl⟩) (r := r58) er58 ?_
            refine r_iload_n (pc := 145) d_Md_lives_145 (x := ((184 : Int32) + ((6 : Int32) * i2))) rfl ?_
            obtain ⟨g63, h⟩ := h
            refine r_iald (pc := 146) d_Md_lives_146 s59 g63 ?_
            refine r_sipush (pc := 147) d_Md_lives_147 (v := 1100) (by decide) ?_
            refine r_icmp_lt (pc := 150) d_Md_lives_150 (tgt := 174) (by decide) (fun c64 => ?_) (fun c64 => ?_)
            · replace h := h.1 c64
              refine r_iload_n (pc := 174) d_Md_lives_174 (x := i2) rfl ?_
              refine r_iconst (pc := 175) d_Md_lives_175 (v := 1) (by decide) ?_
              refine r_iadd (pc := 176) d_Md_lives_176 ?_
              refine r_callV (pc := 177) (k := a) (As := [.int (i2 + (1 : Int32))]) (rest := []) (mc' := 0) (ms' := 0) lk_Md_511 in_Md_behindEnds se_Md_behindEnds sa rfl d_Md_lives_177 k_Md_behindEnds rfl rfl (Nat.le_of_ble_eq_true rfl) (by decide) (by decide) (Sp.mono h ?_)
              rintro rS65 shS65 S65 ⟨qS65, x66, uS65, h⟩
              subst uS65
              rw [qS65]
              refine r_istore_n (pc := 180) (hk := rfl) (hd := d_Md_lives_180) (hi := by decide) (ls2 := [.ref a, .null, .int x66, .int ((184 : Int32) + ((6 : Int32) * i2))]) (h2 := rfl) ?_
              refine r_goto (pc := 181) d_Md_lives_181 (tgt := 32) (by decide) ?_
              exact r_weak (ls2 := [.ref a, .null, .int x66, .null]) ⟨Or.inr rfl, Or.inl rfl, Or.inr rfl, Or.inl rfl, trivial⟩ h
            · replace h := h.2 c64
              refine r_aload_n (pc := 153) d_Md_lives_153 (x := a) rfl ?_
              refine r_iload_n (pc := 154) d_Md_lives_154 (x := ((184 : Int32) + ((6 : Int32) * i2))) rfl ?_
              refine r_callV (pc := 155) (k := a) (As := [.int ((184 : Int32) + ((6 : Int32) * i2))]) (rest := [.ref a]) (mc' := 0) (ms' := 0) lk_Md_508 in_Md_holds se_Md_holds sa rfl d_Md_lives_155 k_Md_holds rfl rfl (Nat.le_of_ble_eq_true rfl) (by decide) (by decide) (Sp.mono h ?_)
              rintro rS67 shS67 S67 ⟨qS67, x68, uS67, h⟩
              subst uS67
              rw [qS67]
              refine r_if_ne (pc := 158) d_Md_lives_158 (tgt := 174) (by decide) (fun c69 => ?_) (fun c69 => ?_)
              · replace h := h.1 c69
                refine r_iload_n (pc := 174) d_Md_lives_174 (x := i2) rfl ?_
                refine r_iconst (pc := 175) d_Md_lives_175 (v := 1) (by decide) ?_
                refine r_iadd (pc := 176) d_Md_lives_176 ?_
                refine r_callV (pc := 177) (k := a) (As := [.int (i2 + (1 : Int32))]) (rest := []) (mc' := 0) (ms' := 0) lk_Md_511 in_Md_behindEnds se_Md_behindEnds sa rfl d_Md_lives_177 k_Md_behindEnds rfl rfl (Nat.le_of_ble_eq_true rfl) (by decide) (by decide) (Sp.mono h ?_)
                rintro rS70 shS70 S70 ⟨qS70, x71, uS70, h⟩
                subst uS70
                rw [qS70]
                refine r_istore_n (pc := 180) (hk := rfl) (hd := d_Md_lives_180) (hi := by decide) (ls2 := [.ref a, .null, .int x71, .int ((184 : Int32) + ((6 : Int32) * i2))]) (h2 := rfl) ?_
                refine r_goto (pc := 181) d_Md_lives_181 (tgt := 32) (by decide) ?_
                exact r_weak (ls2 := [.ref a, .null, .int x71, .null]) ⟨Or.inr rfl, Or.inl rfl, Or.inr rfl, Or.inl rfl, trivial⟩ h
              · replace h := h.2 c69
                refine r_aload_n (pc := 161) d_Md_lives_161 (x := a) rfl ?_
                obtain ⟨r72, er72, h⟩ := h
                refine r_getR (pc := 162) d_Md_lives_162 f_Md_7 sa (Or.inr ⟨_, rfl⟩) (r := r72) er72 ?_
                refine r_iload_n (pc := 165) d_Md_lives_165 (x := ((184 : Int32) + ((6 : Int32) * i2))) rfl ?_
                refine r_iconst (pc := 166) d_Md_lives_166 (v := 4) (by decide) ?_
                refine r_iadd (pc := 167) d_Md_lives_167 ?_
                obtain ⟨n74, s73, h⟩ := h
                obtain ⟨g75, h⟩ := h
                refine r_iald (pc := 168) d_Md_lives_168 s73 g75 ?_
                refine r_iconst (pc := 169) d_Md_lives_169 (v := 1) (by decide) ?_
                refine r_iadd (pc := 170) d_Md_lives_170 ?_
                refine r_goto (pc := 171) d_Md_lives_171 (tgt := 177) (by decide) ?_
                refine r_callV (pc := 177) (k := a) (As := [.int ((S67.1 r72 (((184 : Int32) + ((6 : Int32) * i2)) + (4 : Int32) : Int32).toNatClampNeg) + (1 : Int32))]) (rest := []) (mc' := 0) (ms' := 0) lk_Md_511 in_Md_behindEnds se_Md_behindEnds sa rfl d_Md_lives_177 k_Md_behindEnds rfl rfl (Nat.le_of_ble_eq_true rfl) (by decide) (by decide) (Sp.mono h ?_)
                rintro rS76 shS76 S76 ⟨qS76, x77, uS76, h⟩
                subst uS76
                rw [qS76]
                refine r_istore_n (pc := 180) (hk := rfl) (hd := d_Md_lives_180) (hi := by decide) (ls2 := [.ref a, .null, .int x77, .int ((184 : Int32) + ((6 : Int32) * i2))]) (h2 := rfl) ?_
                refine r_goto (pc := 181) d_Md_lives_181 (tgt := 32) (by decide) ?_
                exact r_weak (ls2 := [.ref a, .null, .int x77, .null]) ⟨Or.inr rfl, Or.inl rfl, Or.inr rfl, Or.inl rfl, trivial⟩ h
          · replace h := h.2 c62
            refine r_aload_n (pc := 124) d_Md_lives_124 (x := a) rfl ?_
            obtain ⟨r78, er78, h⟩ := h
            refine r_getR (pc := 125) d_Md_lives_125 f_Md_99 sa (Or.inr ⟨_, rfl⟩) (r := r78) er78 ?_
            refine r_iload_n (pc := 128) d_Md_lives_128 (x := i2) rfl ?_
            refine r_aload_n (pc := 129) d_Md_lives_129 (x := a) rfl ?_
            refine r_getR (pc := 130) d_Md_lives_130 f_Md_7 sa (Or.inr ⟨_, rfl⟩) (r := r58) er58 ?_
            refine r_iload_n (pc := 133) d_Md_lives_133 (x := ((184 : Int32) + ((6 : Int32) * i2))) rfl ?_
            refine r_iconst (pc := 134) d_Md_lives_134 (v := 1) (by decide) ?_
            refine r_iadd (pc := 135) d_Md_lives_135 ?_
            obtain ⟨g79, h⟩ := h
            refine r_iald (pc := 136) d_Md_lives_136 s59 g79 ?_
            refine r_iconst (pc := 137) d_Md_lives_137 (v := 1) (by decide) ?_
            refine r_isub (pc := 138) d_Md_lives_138 ?_
            obtain ⟨n81, s80, h⟩ := h
            obtain ⟨g82, h⟩ := h
            refine r_iast (pc := 139) d_Md_lives_139 s80 g82 ?_
            refine r_aload_n (pc := 140) d_Md_lives_140 (x := a) rfl ?_
            refine r_aload_n (pc := 141) d_Md_lives_141 (x := a) rfl ?_
            refine r_getR (pc := 142) d_Md_lives_142 f_Md_7 sa (Or.inr ⟨_, rfl⟩) (r := r58) er58 ?_
            refine r_iload_n (pc := 145) d_Md_lives_145 (x := ((184 : Int32) + ((6 : Int32) * i2))) rfl ?_
            obtain ⟨g83, h⟩ := h
            refine r_iald (pc := 146) d_Md_lives_146 s59 g83 ?_
            refine r_sipush (pc := 147) d_Md_lives_147 (v := 1100) (by decide) ?_
            refine r_icmp_lt (pc := 150) d_Md_lives_150 (tgt := 174) (by decide) (fun c84 => ?_) (fun c84 => ?_)
            · replace h := h.1 c84
              refine r_iload_n (pc := 174) d_Md_lives_174 (x := i2) rfl ?_
              refine r_iconst (pc := 175) d_Md_lives_175 (v := 1) (by decide) ?_
              refine r_iadd (pc := 176) d_Md_lives_176 ?_
              refine r_callV (pc := 177) (k := a) (As := [.int (i2 + (1 : Int32))]) (rest := []) (mc' := 0) (ms' := 0) lk_Md_511 in_Md_behindEnds se_Md_behindEnds sa rfl d_Md_lives_177 k_Md_behindEnds rfl rfl (Nat.le_of_ble_eq_true rfl) (by decide) (by decide) (Sp.mono h ?_)
              rintro rS85 shS85 S85 ⟨qS85, x86, uS85, h⟩
              subst uS85
              rw [qS85]
              refine r_istore_n (pc := 180) (hk := rfl) (hd := d_Md_lives_180) (hi := by decide) (ls2 := [.ref a, .null, .int x86, .int ((184 : Int32) + ((6 : Int32) * i2))]) (h2 := rfl) ?_
              refine r_goto (pc := 181) d_Md_lives_181 (tgt := 32) (by decide) ?_
              exact r_weak (ls2 := [.ref a, .null, .int x86, .null]) ⟨Or.inr rfl, Or.inl rfl, Or.inr rfl, Or.inl rfl, trivial⟩ h
            · replace h := h.2 c84
              refine r_aload_n (pc := 153) d_Md_lives_153 (x := a) rfl ?_
              refine r_iload_n (pc := 154) d_Md_lives_154 (x := ((184 : Int32) + ((6 : Int32) * i2))) rfl ?_
              refine r_callV (pc := 155) (k := a) (As := [.int ((184 : Int32) + ((6 : Int32) * i2))]) (rest := [.ref a]) (mc' := 0) (ms' := 0) lk_Md_508 in_Md_holds se_Md_holds sa rfl d_Md_lives_155 k_Md_holds rfl rfl (Nat.le_of_ble_eq_true rfl) (by decide) (by decide) (Sp.mono h ?_)
              rintro rS87 shS87 S87 ⟨qS87, x88, uS87, h⟩
              subst uS87
              rw [qS87]
              refine r_if_ne (pc := 158) d_Md_lives_158 (tgt := 174) (by decide) (fun c89 => ?_) (fun c89 => ?_)
              · replace h := h.1 c89
                refine r_iload_n (pc := 174) d_Md_lives_174 (x := i2) rfl ?_
                refine r_iconst (pc := 175) d_Md_lives_175 (v := 1) (by decide) ?_
                refine r_iadd (pc := 176) d_Md_lives_176 ?_
                refine r_callV (pc := 177) (k := a) (As := [.int (i2 + (1 : Int32))]) (rest := []) (mc' := 0) (ms' := 0) lk_Md_511 in_Md_behindEnds se_Md_behindEnds sa rfl d_Md_lives_177 k_Md_behindEnds rfl rfl (Nat.le_of_ble_eq_true rfl) (by decide) (by decide) (Sp.mono h ?_)
                rintro rS90 shS90 S90 ⟨qS90, x91, uS90, h⟩
                subst uS90
                rw [qS90]
                refine r_istore_n (pc := 180) (hk := rfl) (hd := d_Md_lives_180) (hi := by decide) (ls2 := [.ref a, .null, .int x91, .int ((184 : Int32) + ((6 : Int32) * i2))]) (h2 := rfl) ?_
                refine r_goto (pc := 181) d_Md_lives_181 (tgt := 32) (by decide) ?_
                exact r_weak (ls2 := [.ref a, .null, .int x91, .null]) ⟨Or.inr rfl, Or.inl rfl, Or.inr rfl, Or.inl rfl, trivial⟩ h
              · replace h := h.2 c89
                refine r_aload_n (pc := 161) d_Md_lives_161 (x := a) rfl ?_
                obtain ⟨r92, er92, h⟩ := h
                refine r_getR (pc := 162) d_Md_lives_162 f_Md_7 sa (Or.inr ⟨_, rfl⟩) (r := r92) er92 ?_
                refine r_iload_n (pc := 165) d_Md_lives_165 (x := ((184 : Int32) + ((6 : Int32) * i2))) rfl ?_
                refine r_iconst (pc := 166) d_Md_lives_166 (v := 4) (by decide) ?_
                refine r_iadd (pc := 167) d_Md_lives_167 ?_
                obtain ⟨n94, s93, h⟩ := h
                obtain ⟨g95, h⟩ := h
                refine r_iald (pc := 168) d_Md_lives_168 s93 g95 ?_
                refine r_iconst (pc := 169) d_Md_lives_169 (v := 1) (by decide) ?_
                refine r_iadd (pc := 170) d_Md_lives_170 ?_
                refine r_goto (pc := 171) d_Md_lives_171 (tgt := 177) (by decide) ?_
                refine r_callV (pc := 177) (k := a) (As := [.int ((S87.1 r92 (((184 : Int32) + ((6 : Int32) * i2)) + (4 : Int32) : Int32).toNatClampNeg) + (1 : Int32))]) (rest := []) (mc' := 0) (ms' := 0) lk_Md_511 in_Md_behindEnds se_Md_behindEnds sa rfl d_Md_lives_177 k_Md_behindEnds rfl rfl (Nat.le_of_ble_eq_true rfl) (by decide) (by decide) (Sp.mono h ?_)
                rintro rS96 shS96 S96 ⟨qS96, x97, uS96, h⟩
                subst uS96
                rw [qS96]
                refine r_istore_n (pc := 180) (hk := rfl) (hd := d_Md_lives_180) (hi := by decide) (ls2 := [.ref a, .null, .int x97, .int ((184 : Int32) + ((6 : Int32) * i2))]) (h2 := rfl) ?_
                refine r_goto (pc := 181) d_Md_lives_181 (tgt := 32) (by decide) ?_
                exact r_weak (ls2 := [.ref a, .null, .int x97, .null]) ⟨Or.inr rfl, Or.inl rfl, Or.inr rfl, Or.inl rfl, trivial⟩ h
      · replace h := h.2 c8
        exact r_return (pc := 90) d_Md_lives_90 rfl rfl (Nat.le_refl _) ⟨rfl, rfl, h⟩
    · replace h := h.2 c6
      refine r_aload_n (pc := 52) d_Md_lives_52 (x := a) rfl ?_
      obtain ⟨r98, er98, h⟩ := h
      refine r_getR (pc := 53) d_Md_lives_53 f_Md_102 sa (Or.inr ⟨_, rfl⟩) (r := r98) er98 ?_
      refine r_iconst (pc := 56) d_Md_lives_56 (v := 4) (by decide) ?_
      refine r_iconst (pc := 57) d_Md_lives_57 (v := 1) (by decide) ?_
      obtain ⟨n100, s99, h⟩ := h
      obtain ⟨g101, h⟩ := h
      refine r_iast (pc := 58) d_Md_lives_58 s99 g101 ?_
      exact r_return (pc := 59) d_Md_lives_59 rfl rfl (Nat.le_refl _) ⟨rfl, rfl, h⟩
