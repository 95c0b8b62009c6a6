abbrev m_To_init : aw_MI := (⟨"MaypoleGreen$Tokens", "<init>", "()V"⟩, prog_11_method_1_code, 6, none)
theorem k_To_init : aw_K m_To_init 0 := ⟨aw_in 197 (by decide +kernel) rfl, aw_in 7 (by decide +kernel) rfl, ⟨by decide, by decide, by decide +kernel⟩, by decide, by decide +kernel⟩
theorem d_To_init_0 : decode m_To_init.2.1 0 = .ok (.aload_n 0, 1) := by decide +kernel
theorem d_To_init_1 : decode m_To_init.2.1 1 = .ok (.invokespecial 3, 3) := by decide +kernel
theorem d_To_init_4 : decode m_To_init.2.1 4 = .ok (.aload_n 0, 1) := by decide +kernel
theorem d_To_init_5 : decode m_To_init.2.1 5 = .ok (.bipush 19, 2) := by decide +kernel
theorem d_To_init_7 : decode m_To_init.2.1 7 = .ok (.newarray .long, 2) := by decide +kernel
theorem d_To_init_9 : decode m_To_init.2.1 9 = .ok (.putfield 9, 3) := by decide +kernel
theorem d_To_init_12 : decode m_To_init.2.1 12 = .ok (.iconst 0, 1) := by decide +kernel
theorem d_To_init_13 : decode m_To_init.2.1 13 = .ok (.istore_n 1, 1) := by decide +kernel
theorem d_To_init_14 : decode m_To_init.2.1 14 = .ok (.lconst 0, 1) := by decide +kernel
theorem d_To_init_15 : decode m_To_init.2.1 15 = .ok (.lstore_n 2, 1) := by decide +kernel
theorem d_To_init_16 : decode m_To_init.2.1 16 = .ok (.iconst 0, 1) := by decide +kernel
theorem d_To_init_17 : decode m_To_init.2.1 17 = .ok (.istore 4, 2) := by decide +kernel
theorem lo_To_3 : Cond.methodLink "MaypoleGreen$Tokens" 3 Lib.objectInit ∈ aw_T := aw_in 198 (by decide +kernel) rfl
theorem d_To_init_19 : decode m_To_init.2.1 19 = .ok (.iload 4, 2) := by decide +kernel
theorem d_To_init_21 : decode m_To_init.2.1 21 = .ok (.ldc 15, 2) := by decide +kernel
theorem d_To_init_23 : decode m_To_init.2.1 23 = .ok (.invokevirtual 17, 3) := by decide +kernel
theorem lk_To_17 : Cond.methodLink "MaypoleGreen$Tokens" 17 m_St_length.1 ∈ aw_T := aw_in 200 (by decide +kernel) rfl
theorem d_To_init_26 : decode m_To_init.2.1 26 = .ok (.if_icmp .ge 59, 3) := by decide +kernel
theorem d_To_init_85 : decode m_To_init.2.1 85 = .ok (.return_, 1) := by decide +kernel
theorem d_To_init_29 : decode m_To_init.2.1 29 = .ok (.iload_n 1, 1) := by decide +kernel
theorem d_To_init_30 : decode m_To_init.2.1 30 = .ok (.bipush 19, 2) := by decide +kernel
theorem d_To_init_32 : decode m_To_init.2.1 32 = .ok (.if_icmp .ge 53, 3) := by decide +kernel
theorem d_To_init_35 : decode m_To_init.2.1 35 = .ok (.ldc 15, 2) := by decide +kernel
theorem d_To_init_37 : decode m_To_init.2.1 37 = .ok (.iload 4, 2) := by decide +kernel
theorem d_To_init_39 : decode m_To_init.2.1 39 = .ok (.invokevirtual 23, 3) := by decide +kernel
theorem lk_To_23 : Cond.methodLink "MaypoleGreen$Tokens" 23 m_St_charAt.1 ∈ aw_T := aw_in 210 (by decide +kernel) rfl
theorem d_To_init_42 : decode m_To_init.2.1 42 = .ok (.istore 5, 2) := by decide +kernel
theorem d_To_init_44 : decode m_To_init.2.1 44 = .ok (.iload 5, 2) := by decide +kernel
theorem d_To_init_46 : decode m_To_init.2.1 46 = .ok (.bipush 32, 2) := by decide +kernel
theorem d_To_init_48 : decode m_To_init.2.1 48 = .ok (.if_icmp .ne 18, 3) := by decide +kernel
theorem d_To_init_66 : decode m_To_init.2.1 66 = .ok (.lload_n 2, 1) := by decide +kernel
theorem d_To_init_67 : decode m_To_init.2.1 67 = .ok (.iconst 5, 1) := by decide +kernel
theorem d_To_init_68 : decode m_To_init.2.1 68 = .ok (.lshl, 1) := by decide +kernel
theorem d_To_init_69 : decode m_To_init.2.1 69 = .ok (.iload 5, 2) := by decide +kernel
theorem d_To_init_71 : decode m_To_init.2.1 71 = .ok (.bipush 97, 2) := by decide +kernel
theorem d_To_init_73 : decode m_To_init.2.1 73 = .ok (.isub, 1) := by decide +kernel
theorem d_To_init_74 : decode m_To_init.2.1 74 = .ok (.iconst 1, 1) := by decide +kernel
theorem d_To_init_75 : decode m_To_init.2.1 75 = .ok (.iadd, 1) := by decide +kernel
theorem d_To_init_76 : decode m_To_init.2.1 76 = .ok (.i2l, 1) := by decide +kernel
theorem d_To_init_77 : decode m_To_init.2.1 77 = .ok (.lor, 1) := by decide +kernel
theorem d_To_init_78 : decode m_To_init.2.1 78 = .ok (.lstore_n 2, 1) := by decide +kernel
theorem d_To_init_79 : decode m_To_init.2.1 79 = .ok (.iinc 4 1, 3) := by decide +kernel
theorem d_To_init_82 : decode m_To_init.2.1 82 = .ok (.goto (-63), 3) := by decide +kernel
theorem d_To_init_51 : decode m_To_init.2.1 51 = .ok (.aload_n 0, 1) := by decide +kernel
theorem d_To_init_52 : decode m_To_init.2.1 52 = .ok (.getfield 9, 3) := by decide +kernel
theorem d_To_init_55 : decode m_To_init.2.1 55 = .ok (.iload_n 1, 1) := by decide +kernel
theorem d_To_init_56 : decode m_To_init.2.1 56 = .ok (.lload_n 2, 1) := by decide +kernel
theorem d_To_init_57 : decode m_To_init.2.1 57 = .ok (.lastore, 1) := by decide +kernel
theorem d_To_init_58 : decode m_To_init.2.1 58 = .ok (.iinc 1 1, 3) := by decide +kernel
theorem d_To_init_61 : decode m_To_init.2.1 61 = .ok (.lconst 0, 1) := by decide +kernel
theorem d_To_init_62 : decode m_To_init.2.1 62 = .ok (.lstore_n 2, 1) := by decide +kernel
theorem d_To_init_63 : decode m_To_init.2.1 63 = .ok (.goto 16, 3) := by decide +kernel
set_option maxRecDepth 4000 in
theorem s_To_init_19 {l : Launch} {d : Nat} {sh : aw_SH} {S : aw_S} {G : aw_G} {a : Nat} {i1 : Int32} {i2 : Int64} {i4 : Int32} (sa : sh[a]? = some (0, 6)) (h : Sp l m_St_length d 0 0 [.float 1] sh S (gI sh (fun x2 S1 => ((x2 ≤ i4 → G none sh S1) ∧ (¬ x2 ≤ i4 → ((19 ≤ i1 → G none sh S1) ∧ (¬ 19 ≤ i1 → Sp l m_St_charAt d 0 0 [.float 1, .int i4] sh S1 (gI sh (fun x6 S5 => ((¬ x6 = 32 → ∀ v8 : Int64, v8 = (i2 <<< (((5) : Int32).toInt64 &&& 63)) ||| (((x6 - (97 : Int32)) + (1 : Int32)).toInt64) → AW l m_To_init (d + 1) 1 19 G 1 19 19 [.ref a, .int i1, .long v8, .null, .int (i4 + 1), .null] [] sh S5) ∧ (x6 = 32 → ∃ r9, S5.2.2 a 10 = some r9 ∧ ∃ n11, sh[r9]? = some (4, n11) ∧ vp_in i1 n11 ∧ AW l m_To_init (d + 1) 1 19 G 1 19 19 [.ref a, .int (i1 + 1), .long 0, .null, .int (i4 + 1), .null] [] sh (aw_uL S5 r9 i1.toNatClampNeg i2)))))))))))) : AW l m_To_init (d + 1) 1 19 G 1 19 19 [.ref a, .int i1, .long i2, .null, .int i4, .null] [] sh S := by
  refine r_iload (pc := 19) d_To_init_19 (x := i4) rfl ?_
  refine r_ldcS (pc := 21) d_To_init_21 (w := 1) (by decide) ?_
  refine r_callX (pc := 23) (k := 0) (w := 1) (As := []) (rest := [.int i4]) (mc' := 0) (ms' := 0) lk_To_17 in_St_length se_St_length (by decide) rfl d_To_init_23 k_St_length rfl rfl (Nat.le_of_ble_eq_true rfl) (Nat.le_refl _) (Nat.le_refl _) (Sp.mono h ?_)
  rintro rS1 shS1 S1 ⟨qS1, x2, uS1, h⟩
  subst uS1
  rw [qS1]
  refine r_icmp_ge (pc := 26) d_To_init_26 (tgt := 85) (by decide) (fun c3 => ?_) (fun c3 => ?_)
  · replace h := h.1 c3
    exact r_return (pc := 85) d_To_init_85 rfl rfl (Nat.le_refl _) h
  · replace h := h.2 c3
    refine r_iload_n (pc := 29) d_To_init_29 (x := i1) rfl ?_
    refine r_bipush (pc := 30) d_To_init_30 (v := 19) (by decide) ?_
    refine r_icmp_ge (pc := 32) d_To_init_32 (tgt := 85) (by decide) (fun c4 => ?_) (fun c4 => ?_)
    · replace h := h.1 c4
      exact r_return (pc := 85) d_To_init_85 rfl rfl (Nat.le_refl _) h
    · replace h := h.2 c4
      refine r_ldcS (pc := 35) d_To_init_35 (w := 1) (by decide) ?_
      refine r_iload (pc := 37) d_To_init_37 (x := i4) rfl ?_
      refine r_callX (pc := 39) (k := 0) (w := 1) (As := [.int i4]) (rest := []) (mc' := 0) (ms' := 0) lk_To_23 in_St_charAt se_St_charAt (by decide) rfl d_To_init_39 k_St_charAt rfl rfl (Nat.le_of_ble_eq_true rfl) (Nat.le_refl _) (Nat.le_refl _) (Sp.mono h ?_)
      rintro rS5 shS5 S5 ⟨qS5, x6, uS5, h⟩
      subst uS5
      rw [qS5]
      refine r_istore (pc := 42) (hd := d_To_init_42) (hi := by decide) (ls2 := [.ref a, .int i1, .long i2, .null, .int i4, .int x6]) (h2 := rfl) ?_
      refine r_iload (pc := 44) d_To_init_44 (x := x6) rfl ?_
      refine r_bipush (pc := 46) d_To_init_46 (v := 32) (by decide) ?_
      refine r_icmp_ne (pc := 48) d_To_init_48 (tgt := 66) (by decide) (fun c7 => ?_) (fun c7 => ?_)
      · replace h := h.1 c7
        refine r_lload_n (pc := 66) d_To_init_66 (x := i2) rfl ?_
        refine r_iconst (pc := 67) d_To_init_67 (v := 5) (by decide) ?_
        refine r_lshl (pc := 68) d_To_init_68 ?_
        refine r_iload (pc := 69) d_To_init_69 (x := x6) rfl ?_
        refine r_bipush (pc := 71) d_To_init_71 (v := 97) (by decide) ?_
        refine r_isub (pc := 73) d_To_init_73 ?_
        refine r_iconst (pc := 74) d_To_init_74 (v := 1) (by decide) ?_
        refine r_iadd (pc := 75) d_To_init_75 ?_
        refine r_i2l (pc := 76) d_To_init_76 ?_
        refine r_lor (pc := 77) d_To_init_77 ?_
        refine r_nl (fun v8 ev8 => ?_)
        replace h := h v8 ev8
        refine r_lstore_n (pc := 78) (hk := rfl) (hd := d_To_init_78) (hi := by decide) (ls2 := [.ref a, .int i1, .long v8, .null, .int i4, .int x6]) (h2 := rfl) ?_
        refine r_iinc (pc := 79) d_To_init_79 (hi := by decide) (x := i4) rfl (v := i4 + 1) rfl (ls2 := [.ref a, .int i1, .long v8, .null, .int (i4 + 1), .int x6]) rfl ?_
        refine r_goto (pc := 82) d_To_init_82 (tgt := 19) (by decide) ?_
        exact r_weak (ls2 := [.ref a, .int i1, .long v8, .null, .int (i4 + 1), .null]) ⟨Or.inr rfl, Or.inr rfl, Or.inr rfl, Or.inl rfl, Or.inr rfl, Or.inl rfl, trivial⟩ h
      · replace h := h.2 c7
        refine r_aload_n (pc := 51) d_To_init_51 (x := a) rfl ?_
        obtain ⟨r9, er9, h⟩ := h
        refine r_getR (pc := 52) d_To_init_52 f_To_9 sa (Or.inr ⟨_, rfl⟩) (r := r9) er9 ?_
        refine r_iload_n (pc := 55) d_To_init_55 (x := i1) rfl ?_
        refine r_lload_n (pc := 56) d_To_init_56 (x := i2) rfl ?_
        obtain ⟨n11, s10, h⟩ := h
        obtain ⟨g12, h⟩ := h
        refine r_last (pc := 57) d_To_init_57 s10 g12 ?_
        refine r_iinc (pc := 58) d_To_init_58 (hi := by decide) (x := i1) rfl (v := i1 + 1) rfl (ls2 := [.ref a, .int (i1 + 1), .long i2, .null, .int i4, .int x6]) rfl ?_
        refine r_lconst (pc := 61) d_To_init_61 (v := 0) (by decide) ?_
        refine r_lstore_n (pc := 62) (hk := rfl) (hd := d_To_init_62) (hi := by decide) (ls2 := [.ref a, .int (i1 + 1), .long 0, .null, .int i4, .int x6]) (h2 := rfl) ?_
        refine r_goto (pc := 63) d_To_init_63 (tgt := 79) (by decide) ?_
        refine r_iinc (pc := 79) d_To_init_79 (hi := by decide) (x := i4) rfl (v := i4 + 1) rfl (ls2 := [.ref a, .int (i1 + 1), .long 0, .null, .int (i4 + 1), .int x6]) rfl ?_
        refine r_goto (pc := 82) d_To_init_82 (tgt := 19) (by decide) ?_
        exact r_weak (ls2 := [.ref a, .int (i1 + 1), .long 0, .null, .int (i4 + 1), .null]) ⟨Or.inr rfl, Or.inr rfl, Or.inr rfl, Or.inl rfl, Or.inr rfl, Or.inl rfl, trivial⟩ h
