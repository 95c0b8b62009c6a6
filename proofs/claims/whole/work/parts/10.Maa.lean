abbrev m_Ar_fill_AJJV : aw_MI := (⟨"java/util/Arrays", "fill", "([JJ)V"⟩, prog_21_method_101_code, 5, none)
theorem k_Ar_fill_AJJV : aw_K m_Ar_fill_AJJV 2 := ⟨aw_in 513 (by decide +kernel) rfl, aw_in 17 (by decide +kernel) rfl, ⟨by decide, by decide, by decide +kernel⟩, by decide, by decide +kernel⟩
theorem d_Ar_fill_AJJV_0 : decode m_Ar_fill_AJJV.2.1 0 = .ok (.iconst 0, 1) := by decide +kernel
theorem d_Ar_fill_AJJV_1 : decode m_Ar_fill_AJJV.2.1 1 = .ok (.istore_n 3, 1) := by decide +kernel
theorem d_Ar_fill_AJJV_2 : decode m_Ar_fill_AJJV.2.1 2 = .ok (.aload_n 0, 1) := by decide +kernel
theorem d_Ar_fill_AJJV_3 : decode m_Ar_fill_AJJV.2.1 3 = .ok (.arraylength, 1) := by decide +kernel
theorem d_Ar_fill_AJJV_4 : decode m_Ar_fill_AJJV.2.1 4 = .ok (.istore 4, 2) := by decide +kernel
theorem d_Ar_fill_AJJV_6 : decode m_Ar_fill_AJJV.2.1 6 = .ok (.iload_n 3, 1) := by decide +kernel
theorem d_Ar_fill_AJJV_7 : decode m_Ar_fill_AJJV.2.1 7 = .ok (.iload 4, 2) := by decide +kernel
theorem d_Ar_fill_AJJV_9 : decode m_Ar_fill_AJJV.2.1 9 = .ok (.if_icmp .ge 13, 3) := by decide +kernel
theorem d_Ar_fill_AJJV_22 : decode m_Ar_fill_AJJV.2.1 22 = .ok (.return_, 1) := by decide +kernel
theorem d_Ar_fill_AJJV_12 : decode m_Ar_fill_AJJV.2.1 12 = .ok (.aload_n 0, 1) := by decide +kernel
theorem d_Ar_fill_AJJV_13 : decode m_Ar_fill_AJJV.2.1 13 = .ok (.iload_n 3, 1) := by decide +kernel
theorem d_Ar_fill_AJJV_14 : decode m_Ar_fill_AJJV.2.1 14 = .ok (.lload_n 1, 1) := by decide +kernel
theorem d_Ar_fill_AJJV_15 : decode m_Ar_fill_AJJV.2.1 15 = .ok (.lastore, 1) := by decide +kernel
theorem d_Ar_fill_AJJV_16 : decode m_Ar_fill_AJJV.2.1 16 = .ok (.iinc 3 1, 3) := by decide +kernel
theorem d_Ar_fill_AJJV_19 : decode m_Ar_fill_AJJV.2.1 19 = .ok (.goto (-13), 3) := by decide +kernel
abbrev m_Ar_fill_AIIV : aw_MI := (⟨"java/util/Arrays", "fill", "([II)V"⟩, prog_21_method_103_code, 4, none)
theorem k_Ar_fill_AIIV : aw_K m_Ar_fill_AIIV 2 := ⟨aw_in 802 (by decide +kernel) rfl, aw_in 17 (by decide +kernel) rfl, ⟨by decide, by decide, by decide +kernel⟩, by decide, by decide +kernel⟩
theorem d_Ar_fill_AIIV_0 : decode m_Ar_fill_AIIV.2.1 0 = .ok (.iconst 0, 1) := by decide +kernel
theorem d_Ar_fill_AIIV_1 : decode m_Ar_fill_AIIV.2.1 1 = .ok (.istore_n 2, 1) := by decide +kernel
theorem d_Ar_fill_AIIV_2 : decode m_Ar_fill_AIIV.2.1 2 = .ok (.aload_n 0, 1) := by decide +kernel
theorem d_Ar_fill_AIIV_3 : decode m_Ar_fill_AIIV.2.1 3 = .ok (.arraylength, 1) := by decide +kernel
theorem d_Ar_fill_AIIV_4 : decode m_Ar_fill_AIIV.2.1 4 = .ok (.istore_n 3, 1) := by decide +kernel
theorem d_Ar_fill_AIIV_5 : decode m_Ar_fill_AIIV.2.1 5 = .ok (.iload_n 2, 1) := by decide +kernel
theorem d_Ar_fill_AIIV_6 : decode m_Ar_fill_AIIV.2.1 6 = .ok (.iload_n 3, 1) := by decide +kernel
theorem d_Ar_fill_AIIV_7 : decode m_Ar_fill_AIIV.2.1 7 = .ok (.if_icmp .ge 13, 3) := by decide +kernel
theorem d_Ar_fill_AIIV_20 : decode m_Ar_fill_AIIV.2.1 20 = .ok (.return_, 1) := by decide +kernel
theorem d_Ar_fill_AIIV_10 : decode m_Ar_fill_AIIV.2.1 10 = .ok (.aload_n 0, 1) := by decide +kernel
theorem d_Ar_fill_AIIV_11 : decode m_Ar_fill_AIIV.2.1 11 = .ok (.iload_n 2, 1) := by decide +kernel
theorem d_Ar_fill_AIIV_12 : decode m_Ar_fill_AIIV.2.1 12 = .ok (.iload_n 1, 1) := by decide +kernel
theorem d_Ar_fill_AIIV_13 : decode m_Ar_fill_AIIV.2.1 13 = .ok (.iastore, 1) := by decide +kernel
theorem d_Ar_fill_AIIV_14 : decode m_Ar_fill_AIIV.2.1 14 = .ok (.iinc 2 1, 3) := by decide +kernel
theorem d_Ar_fill_AIIV_17 : decode m_Ar_fill_AIIV.2.1 17 = .ok (.goto (-12), 3) := by decide +kernel
abbrev m_Ma_max : aw_MI := (⟨"java/lang/Math", "max", "(II)I"⟩, prog_16_method_65_code, 2, some .int)
theorem k_Ma_max : aw_K m_Ma_max 2 := ⟨aw_in 805 (by decide +kernel) rfl, aw_in 19 (by decide +kernel) rfl, ⟨by decide, by decide, by decide +kernel⟩, by decide, by decide +kernel⟩
theorem d_Ma_max_0 : decode m_Ma_max.2.1 0 = .ok (.iload_n 0, 1) := by decide +kernel
theorem d_Ma_max_1 : decode m_Ma_max.2.1 1 = .ok (.iload_n 1, 1) := by decide +kernel
theorem d_Ma_max_2 : decode m_Ma_max.2.1 2 = .ok (.if_icmp .lt 7, 3) := by decide +kernel
theorem d_Ma_max_9 : decode m_Ma_max.2.1 9 = .ok (.iload_n 1, 1) := by decide +kernel
theorem d_Ma_max_10 : decode m_Ma_max.2.1 10 = .ok (.ireturn, 1) := by decide +kernel
theorem d_Ma_max_5 : decode m_Ma_max.2.1 5 = .ok (.iload_n 0, 1) := by decide +kernel
theorem d_Ma_max_6 : decode m_Ma_max.2.1 6 = .ok (.goto 4, 3) := by decide +kernel
abbrev m_In_bitCount : aw_MI := (⟨"java/lang/Integer", "bitCount", "(I)I"⟩, prog_15_method_49_code, 1, some .int)
theorem k_In_bitCount : aw_K m_In_bitCount 1 := ⟨aw_in 824 (by decide +kernel) rfl, aw_in 20 (by decide +kernel) rfl, ⟨by decide, by decide, by decide +kernel⟩, by decide, by decide +kernel⟩
theorem d_In_bitCount_0 : decode m_In_bitCount.2.1 0 = .ok (.iload_n 0, 1) := by decide +kernel
theorem d_In_bitCount_1 : decode m_In_bitCount.2.1 1 = .ok (.iload_n 0, 1) := by decide +kernel
theorem d_In_bitCount_2 : decode m_In_bitCount.2.1 2 = .ok (.iconst 1, 1) := by decide +kernel
theorem d_In_bitCount_3 : decode m_In_bitCount.2.1 3 = .ok (.iushr, 1) := by decide +kernel
theorem d_In_bitCount_4 : decode m_In_bitCount.2.1 4 = .ok (.ldc_w 265, 3) := by decide +kernel
theorem cc_In_265 : Cond.constant "java/lang/Integer" 265 (1431655765) ∈ aw_T := aw_in 825 (by decide +kernel) rfl
theorem d_In_bitCount_7 : decode m_In_bitCount.2.1 7 = .ok (.iand, 1) := by decide +kernel
theorem d_In_bitCount_8 : decode m_In_bitCount.2.1 8 = .ok (.isub, 1) := by decide +kernel
theorem d_In_bitCount_9 : decode m_In_bitCount.2.1 9 = .ok (.istore_n 0, 1) := by decide +kernel
theorem d_In_bitCount_10 : decode m_In_bitCount.2.1 10 = .ok (.iload_n 0, 1) := by decide +kernel
theorem d_In_bitCount_11 : decode m_In_bitCount.2.1 11 = .ok (.ldc_w 266, 3) := by decide +kernel
theorem cc_In_266 : Cond.constant "java/lang/Integer" 266 (858993459) ∈ aw_T := aw_in 826 (by decide +kernel) rfl
theorem d_In_bitCount_14 : decode m_In_bitCount.2.1 14 = .ok (.iand, 1) := by decide +kernel
theorem d_In_bitCount_15 : decode m_In_bitCount.2.1 15 = .ok (.iload_n 0, 1) := by decide +kernel
theorem d_In_bitCount_16 : decode m_In_bitCount.2.1 16 = .ok (.iconst 2, 1) := by decide +kernel
theorem d_In_bitCount_17 : decode m_In_bitCount.2.1 17 = .ok (.iushr, 1) := by decide +kernel
theorem d_In_bitCount_18 : decode m_In_bitCount.2.1 18 = .ok (.ldc_w 266, 3) := by decide +kernel
theorem d_In_bitCount_21 : decode m_In_bitCount.2.1 21 = .ok (.iand, 1) := by decide +kernel
theorem d_In_bitCount_22 : decode m_In_bitCount.2.1 22 = .ok (.iadd, 1) := by decide +kernel
theorem d_In_bitCount_23 : decode m_In_bitCount.2.1 23 = .ok (.istore_n 0, 1) := by decide +kernel
theorem d_In_bitCount_24 : decode m_In_bitCount.2.1 24 = .ok (.iload_n 0, 1) := by decide +kernel
theorem d_In_bitCount_25 : decode m_In_bitCount.2.1 25 = .ok (.iload_n 0, 1) := by decide +kernel
theorem d_In_bitCount_26 : decode m_In_bitCount.2.1 26 = .ok (.iconst 4, 1) := by decide +kernel
theorem d_In_bitCount_27 : decode m_In_bitCount.2.1 27 = .ok (.iushr, 1) := by decide +kernel
theorem d_In_bitCount_28 : decode m_In_bitCount.2.1 28 = .ok (.iadd, 1) := by decide +kernel
theorem d_In_bitCount_29 : decode m_In_bitCount.2.1 29 = .ok (.ldc_w 267, 3) := by decide +kernel
theorem cc_In_267 : Cond.constant "java/lang/Integer" 267 (252645135) ∈ aw_T := aw_in 827 (by decide +kernel) rfl
theorem d_In_bitCount_32 : decode m_In_bitCount.2.1 32 = .ok (.iand, 1) := by decide +kernel
theorem d_In_bitCount_33 : decode m_In_bitCount.2.1 33 = .ok (.istore_n 0, 1) := by decide +kernel
theorem d_In_bitCount_34 : decode m_In_bitCount.2.1 34 = .ok (.iload_n 0, 1) := by decide +kernel
theorem d_In_bitCount_35 : decode m_In_bitCount.2.1 35 = .ok (.iload_n 0, 1) := by decide +kernel
theorem d_In_bitCount_36 : decode m_In_bitCount.2.1 36 = .ok (.bipush 8, 2) := by decide +kernel
theorem d_In_bitCount_38 : decode m_In_bitCount.2.1 38 = .ok (.iushr, 1) := by decide +kernel
theorem d_In_bitCount_39 : decode m_In_bitCount.2.1 39 = .ok (.iadd, 1) := by decide +kernel
theorem d_In_bitCount_40 : decode m_In_bitCount.2.1 40 = .ok (.istore_n 0, 1) := by decide +kernel
theorem d_In_bitCount_41 : decode m_In_bitCount.2.1 41 = .ok (.iload_n 0, 1) := by decide +kernel
theorem d_In_bitCount_42 : decode m_In_bitCount.2.1 42 = .ok (.iload_n 0, 1) := by decide +kernel
theorem d_In_bitCount_43 : decode m_In_bitCount.2.1 43 = .ok (.bipush 16, 2) := by decide +kernel
theorem d_In_bitCount_45 : decode m_In_bitCount.2.1 45 = .ok (.iushr, 1) := by decide +kernel
theorem d_In_bitCount_46 : decode m_In_bitCount.2.1 46 = .ok (.iadd, 1) := by decide +kernel
theorem d_In_bitCount_47 : decode m_In_bitCount.2.1 47 = .ok (.istore_n 0, 1) := by decide +kernel
theorem d_In_bitCount_48 : decode m_In_bitCount.2.1 48 = .ok (.iload_n 0, 1) := by decide +kernel
theorem d_In_bitCount_49 : decode m_In_bitCount.2.1 49 = .ok (.bipush 63, 2) := by decide +kernel
theorem d_In_bitCount_51 : decode m_In_bitCount.2.1 51 = .ok (.iand, 1) := by decide +kernel
theorem d_In_bitCount_52 : decode m_In_bitCount.2.1 52 = .ok (.ireturn, 1) := by decide +kernel
abbrev m_Ma_floorDiv : aw_MI := (⟨"java/lang/Math", "floorDiv", "(II)I"⟩, prog_16_method_47_code, 3, some .int)
theorem k_Ma_floorDiv : aw_K m_Ma_floorDiv 2 := ⟨aw_in 967 (by decide +kernel) rfl, aw_in 19 (by decide +kernel) rfl, ⟨by decide, by decide, by decide +kernel⟩, by decide, by decide +kernel⟩
theorem d_Ma_floorDiv_0 : decode m_Ma_floorDiv.2.1 0 = .ok (.iload_n 0, 1) := by decide +kernel
theorem d_Ma_floorDiv_1 : decode m_Ma_floorDiv.2.1 1 = .ok (.iload_n 1, 1) := by decide +kernel
theorem d_Ma_floorDiv_2 : decode m_Ma_floorDiv.2.1 2 = .ok (.idiv, 1) := by decide +kernel
theorem d_Ma_floorDiv_3 : decode m_Ma_floorDiv.2.1 3 = .ok (.istore_n 2, 1) := by decide +kernel
theorem d_Ma_floorDiv_4 : decode m_Ma_floorDiv.2.1 4 = .ok (.iload_n 0, 1) := by decide +kernel
theorem d_Ma_floorDiv_5 : decode m_Ma_floorDiv.2.1 5 = .ok (.iload_n 1, 1) := by decide +kernel
theorem d_Ma_floorDiv_6 : decode m_Ma_floorDiv.2.1 6 = .ok (.ixor, 1) := by decide +kernel
theorem d_Ma_floorDiv_7 : decode m_Ma_floorDiv.2.1 7 = .ok (.ifCond .ge 14, 3) := by decide +kernel
theorem d_Ma_floorDiv_21 : decode m_Ma_floorDiv.2.1 21 = .ok (.iload_n 2, 1) := by decide +kernel
theorem d_Ma_floorDiv_22 : decode m_Ma_floorDiv.2.1 22 = .ok (.ireturn, 1) := by decide +kernel
theorem d_Ma_floorDiv_10 : decode m_Ma_floorDiv.2.1 10 = .ok (.iload_n 2, 1) := by decide +kernel
theorem d_Ma_floorDiv_11 : decode m_Ma_floorDiv.2.1 11 = .ok (.iload_n 1, 1) := by decide +kernel
theorem d_Ma_floorDiv_12 : decode m_Ma_floorDiv.2.1 12 = .ok (.imul, 1) := by decide +kernel
theorem d_Ma_floorDiv_13 : decode m_Ma_floorDiv.2.1 13 = .ok (.iload_n 0, 1) := by decide +kernel
theorem d_Ma_floorDiv_14 : decode m_Ma_floorDiv.2.1 14 = .ok (.if_icmp .eq 7, 3) := by decide +kernel
theorem d_Ma_floorDiv_17 : decode m_Ma_floorDiv.2.1 17 = .ok (.iload_n 2, 1) := by decide +kernel
theorem d_Ma_floorDiv_18 : decode m_Ma_floorDiv.2.1 18 = .ok (.iconst 1, 1) := by decide +kernel
theorem d_Ma_floorDiv_19 : decode m_Ma_floorDiv.2.1 19 = .ok (.isub, 1) := by decide +kernel
theorem d_Ma_floorDiv_20 : decode m_Ma_floorDiv.2.1 20 = .ok (.ireturn, 1) := by decide +kernel
abbrev m_Ma_abs : aw_MI := (⟨"java/lang/Math", "abs", "(I)I"⟩, prog_16_method_59_code, 1, some .int)
theorem k_Ma_abs : aw_K m_Ma_abs 1 := ⟨aw_in 970 (by decide +kernel) rfl, aw_in 19 (by decide +kernel) rfl, ⟨by decide, by decide, by decide +kernel⟩, by decide, by decide +kernel⟩
theorem d_Ma_abs_0 : decode m_Ma_abs.2.1 0 = .ok (.iload_n 0, 1) := by decide +kernel
theorem d_Ma_abs_1 : decode m_Ma_abs.2.1 1 = .ok (.ifCond .ge 8, 3) := by decide +kernel
theorem d_Ma_abs_9 : decode m_Ma_abs.2.1 9 = .ok (.iload_n 0, 1) := by decide +kernel
theorem d_Ma_abs_10 : decode m_Ma_abs.2.1 10 = .ok (.ireturn, 1) := by decide +kernel
theorem d_Ma_abs_4 : decode m_Ma_abs.2.1 4 = .ok (.iload_n 0, 1) := by decide +kernel
theorem d_Ma_abs_5 : decode m_Ma_abs.2.1 5 = .ok (.ineg, 1) := by decide +kernel
theorem d_Ma_abs_6 : decode m_Ma_abs.2.1 6 = .ok (.goto 4, 3) := by decide +kernel
abbrev m_Ma_min : aw_MI := (⟨"java/lang/Math", "min", "(II)I"⟩, prog_16_method_69_code, 2, some .int)
theorem k_Ma_min : aw_K m_Ma_min 2 := ⟨aw_in 997 (by decide +kernel) rfl, aw_in 19 (by decide +kernel) rfl, ⟨by decide, by decide, by decide +kernel⟩, by decide, by decide +kernel⟩
theorem d_Ma_min_0 : decode m_Ma_min.2.1 0 = .ok (.iload_n 0, 1) := by decide +kernel
theorem d_Ma_min_1 : decode m_Ma_min.2.1 1 = .ok (.iload_n 1, 1) := by decide +kernel
theorem d_Ma_min_2 : decode m_Ma_min.2.1 2 = .ok (.if_icmp .gt 7, 3) := by decide +kernel
theorem d_Ma_min_9 : decode m_Ma_min.2.1 9 = .ok (.iload_n 1, 1) := by decide +kernel
theorem d_Ma_min_10 : decode m_Ma_min.2.1 10 = .ok (.ireturn, 1) := by decide +kernel
theorem d_Ma_min_5 : decode m_Ma_min.2.1 5 = .ok (.iload_n 0, 1) := by decide +kernel
theorem d_Ma_min_6 : decode m_Ma_min.2.1 6 = .ok (.goto 4, 3) := by decide +kernel
