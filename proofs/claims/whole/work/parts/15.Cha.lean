abbrev m_Ch_setSlips : aw_MI := (⟨"MaypoleGreen$Chances", "setSlips", "(III)V"⟩, prog_2_method_4_code, 9, none)
theorem k_Ch_setSlips : aw_K m_Ch_setSlips 3 := ⟨aw_in 1147 (by decide +kernel) rfl, aw_in 15 (by decide +kernel) rfl, ⟨by decide, by decide, by decide +kernel⟩, by decide, by decide +kernel⟩
theorem d_Ch_setSlips_0 : decode m_Ch_setSlips.2.1 0 = .ok (.aload_n 0, 1) := by decide +kernel
theorem d_Ch_setSlips_1 : decode m_Ch_setSlips.2.1 1 = .ok (.getfield 15, 3) := by decide +kernel
theorem f_Ch_15 : aw_F "MaypoleGreen$Chances" 15 10 2 true := ⟨cR10, cT10, 4, fun k => cY10.getD k .int, rfl, ci10, cy10, cn10, rfl, by decide, aw_in 412 (by decide +kernel) rfl, rfl, rfl, rfl⟩
theorem d_Ch_setSlips_4 : decode m_Ch_setSlips.2.1 4 = .ok (.lconst 0, 1) := by decide +kernel
theorem d_Ch_setSlips_5 : decode m_Ch_setSlips.2.1 5 = .ok (.invokestatic 29, 3) := by decide +kernel
theorem lk_Ch_29 : Cond.methodLink "MaypoleGreen$Chances" 29 m_Ar_fill_AJJV.1 ∈ aw_T := aw_in 1148 (by decide +kernel) rfl
theorem d_Ch_setSlips_8 : decode m_Ch_setSlips.2.1 8 = .ok (.aload_n 0, 1) := by decide +kernel
theorem d_Ch_setSlips_9 : decode m_Ch_setSlips.2.1 9 = .ok (.getfield 15, 3) := by decide +kernel
theorem d_Ch_setSlips_12 : decode m_Ch_setSlips.2.1 12 = .ok (.iconst 0, 1) := by decide +kernel
theorem d_Ch_setSlips_13 : decode m_Ch_setSlips.2.1 13 = .ok (.lconst 1, 1) := by decide +kernel
theorem d_Ch_setSlips_14 : decode m_Ch_setSlips.2.1 14 = .ok (.lastore, 1) := by decide +kernel
theorem d_Ch_setSlips_15 : decode m_Ch_setSlips.2.1 15 = .ok (.lconst 1, 1) := by decide +kernel
theorem d_Ch_setSlips_16 : decode m_Ch_setSlips.2.1 16 = .ok (.lstore 4, 2) := by decide +kernel
theorem d_Ch_setSlips_18 : decode m_Ch_setSlips.2.1 18 = .ok (.iconst 1, 1) := by decide +kernel
theorem d_Ch_setSlips_19 : decode m_Ch_setSlips.2.1 19 = .ok (.istore 6, 2) := by decide +kernel
theorem d_Ch_setSlips_21 : decode m_Ch_setSlips.2.1 21 = .ok (.iload 6, 2) := by decide +kernel
theorem d_Ch_setSlips_23 : decode m_Ch_setSlips.2.1 23 = .ok (.iload_n 2, 1) := by decide +kernel
theorem d_Ch_setSlips_24 : decode m_Ch_setSlips.2.1 24 = .ok (.if_icmp .gt 79, 3) := by decide +kernel
theorem d_Ch_setSlips_103 : decode m_Ch_setSlips.2.1 103 = .ok (.lconst 0, 1) := by decide +kernel
theorem d_Ch_setSlips_104 : decode m_Ch_setSlips.2.1 104 = .ok (.lstore 6, 2) := by decide +kernel
theorem d_Ch_setSlips_106 : decode m_Ch_setSlips.2.1 106 = .ok (.iload_n 3, 1) := by decide +kernel
theorem d_Ch_setSlips_107 : decode m_Ch_setSlips.2.1 107 = .ok (.istore 8, 2) := by decide +kernel
theorem d_Ch_setSlips_27 : decode m_Ch_setSlips.2.1 27 = .ok (.iload 6, 2) := by decide +kernel
theorem d_Ch_setSlips_29 : decode m_Ch_setSlips.2.1 29 = .ok (.istore 7, 2) := by decide +kernel
theorem d_Ch_setSlips_109 : decode m_Ch_setSlips.2.1 109 = .ok (.iload 8, 2) := by decide +kernel
theorem d_Ch_setSlips_111 : decode m_Ch_setSlips.2.1 111 = .ok (.iload_n 2, 1) := by decide +kernel
theorem d_Ch_setSlips_112 : decode m_Ch_setSlips.2.1 112 = .ok (.if_icmp .gt 21, 3) := by decide +kernel
theorem d_Ch_setSlips_133 : decode m_Ch_setSlips.2.1 133 = .ok (.aload_n 0, 1) := by decide +kernel
theorem d_Ch_setSlips_134 : decode m_Ch_setSlips.2.1 134 = .ok (.lload 6, 2) := by decide +kernel
theorem d_Ch_setSlips_136 : decode m_Ch_setSlips.2.1 136 = .ok (.lload 4, 2) := by decide +kernel
theorem d_Ch_setSlips_138 : decode m_Ch_setSlips.2.1 138 = .ok (.invokevirtual 37, 3) := by decide +kernel
abbrev m_Ch_set : aw_MI := (⟨"MaypoleGreen$Chances", "set", "(JJ)V"⟩, prog_2_method_2_code, 7, none)
theorem lk_Ch_37 : Cond.methodLink "MaypoleGreen$Chances" 37 m_Ch_set.1 ∈ aw_T := aw_in 1150 (by decide +kernel) rfl
theorem k_Ch_set : aw_K m_Ch_set 2 := ⟨aw_in 1153 (by decide +kernel) rfl, aw_in 15 (by decide +kernel) rfl, ⟨by decide, by decide, by decide +kernel⟩, by decide, by decide +kernel⟩
theorem in_Ch_set : Cond.instanceMethod m_Ch_set.1 ∈ aw_T := aw_in 1151 (by decide +kernel) rfl
theorem se_Ch_set : Cond.selects m_Ch_set.1.cls m_Ch_set.1 m_Ch_set.1 ∈ aw_T := aw_in 1152 (by decide +kernel) rfl
theorem d_Ch_setSlips_141 : decode m_Ch_setSlips.2.1 141 = .ok (.return_, 1) := by decide +kernel
theorem d_Ch_setSlips_115 : decode m_Ch_setSlips.2.1 115 = .ok (.lload 6, 2) := by decide +kernel
theorem d_Ch_setSlips_117 : decode m_Ch_setSlips.2.1 117 = .ok (.aload_n 0, 1) := by decide +kernel
theorem d_Ch_setSlips_118 : decode m_Ch_setSlips.2.1 118 = .ok (.getfield 15, 3) := by decide +kernel
theorem d_Ch_setSlips_121 : decode m_Ch_setSlips.2.1 121 = .ok (.iload 8, 2) := by decide +kernel
theorem d_Ch_setSlips_123 : decode m_Ch_setSlips.2.1 123 = .ok (.laload, 1) := by decide +kernel
theorem d_Ch_setSlips_124 : decode m_Ch_setSlips.2.1 124 = .ok (.ladd, 1) := by decide +kernel
theorem d_Ch_setSlips_125 : decode m_Ch_setSlips.2.1 125 = .ok (.lstore 6, 2) := by decide +kernel
theorem d_Ch_setSlips_127 : decode m_Ch_setSlips.2.1 127 = .ok (.iinc 8 1, 3) := by decide +kernel
theorem d_Ch_setSlips_130 : decode m_Ch_setSlips.2.1 130 = .ok (.goto (-21), 3) := by decide +kernel
theorem d_Ch_setSlips_31 : decode m_Ch_setSlips.2.1 31 = .ok (.iload 7, 2) := by decide +kernel
theorem d_Ch_setSlips_33 : decode m_Ch_setSlips.2.1 33 = .ok (.ifCond .le 42, 3) := by decide +kernel
theorem d_Ch_setSlips_75 : decode m_Ch_setSlips.2.1 75 = .ok (.aload_n 0, 1) := by decide +kernel
theorem d_Ch_setSlips_76 : decode m_Ch_setSlips.2.1 76 = .ok (.getfield 15, 3) := by decide +kernel
theorem d_Ch_setSlips_79 : decode m_Ch_setSlips.2.1 79 = .ok (.iconst 0, 1) := by decide +kernel
theorem d_Ch_setSlips_80 : decode m_Ch_setSlips.2.1 80 = .ok (.dup2, 1) := by decide +kernel
theorem d_Ch_setSlips_81 : decode m_Ch_setSlips.2.1 81 = .ok (.laload, 1) := by decide +kernel
theorem d_Ch_setSlips_82 : decode m_Ch_setSlips.2.1 82 = .ok (.bipush 16, 2) := by decide +kernel
theorem d_Ch_setSlips_84 : decode m_Ch_setSlips.2.1 84 = .ok (.iload_n 1, 1) := by decide +kernel
theorem d_Ch_setSlips_85 : decode m_Ch_setSlips.2.1 85 = .ok (.isub, 1) := by decide +kernel
theorem d_Ch_setSlips_86 : decode m_Ch_setSlips.2.1 86 = .ok (.i2l, 1) := by decide +kernel
theorem d_Ch_setSlips_87 : decode m_Ch_setSlips.2.1 87 = .ok (.lmul, 1) := by decide +kernel
theorem d_Ch_setSlips_88 : decode m_Ch_setSlips.2.1 88 = .ok (.lastore, 1) := by decide +kernel
theorem d_Ch_setSlips_89 : decode m_Ch_setSlips.2.1 89 = .ok (.lload 4, 2) := by decide +kernel
theorem d_Ch_setSlips_91 : decode m_Ch_setSlips.2.1 91 = .ok (.ldc2_w 35, 3) := by decide +kernel
theorem cl_Ch_35 : Cond.constantLong "MaypoleGreen$Chances" 35 (16) ∈ aw_T := aw_in 1149 (by decide +kernel) rfl
theorem d_Ch_setSlips_94 : decode m_Ch_setSlips.2.1 94 = .ok (.lmul, 1) := by decide +kernel
theorem d_Ch_setSlips_95 : decode m_Ch_setSlips.2.1 95 = .ok (.lstore 4, 2) := by decide +kernel
theorem d_Ch_setSlips_97 : decode m_Ch_setSlips.2.1 97 = .ok (.iinc 6 1, 3) := by decide +kernel
theorem d_Ch_setSlips_100 : decode m_Ch_setSlips.2.1 100 = .ok (.goto (-79), 3) := by decide +kernel
theorem d_Ch_setSlips_36 : decode m_Ch_setSlips.2.1 36 = .ok (.aload_n 0, 1) := by decide +kernel
theorem d_Ch_setSlips_37 : decode m_Ch_setSlips.2.1 37 = .ok (.getfield 15, 3) := by decide +kernel
theorem d_Ch_setSlips_40 : decode m_Ch_setSlips.2.1 40 = .ok (.iload 7, 2) := by decide +kernel
theorem d_Ch_setSlips_42 : decode m_Ch_setSlips.2.1 42 = .ok (.aload_n 0, 1) := by decide +kernel
theorem d_Ch_setSlips_43 : decode m_Ch_setSlips.2.1 43 = .ok (.getfield 15, 3) := by decide +kernel
theorem d_Ch_setSlips_46 : decode m_Ch_setSlips.2.1 46 = .ok (.iload 7, 2) := by decide +kernel
theorem d_Ch_setSlips_48 : decode m_Ch_setSlips.2.1 48 = .ok (.laload, 1) := by decide +kernel
theorem d_Ch_setSlips_49 : decode m_Ch_setSlips.2.1 49 = .ok (.bipush 16, 2) := by decide +kernel
theorem d_Ch_setSlips_51 : decode m_Ch_setSlips.2.1 51 = .ok (.iload_n 1, 1) := by decide +kernel
theorem d_Ch_setSlips_52 : decode m_Ch_setSlips.2.1 52 = .ok (.isub, 1) := by decide +kernel
theorem d_Ch_setSlips_53 : decode m_Ch_setSlips.2.1 53 = .ok (.i2l, 1) := by decide +kernel
theorem d_Ch_setSlips_54 : decode m_Ch_setSlips.2.1 54 = .ok (.lmul, 1) := by decide +kernel
theorem d_Ch_setSlips_55 : decode m_Ch_setSlips.2.1 55 = .ok (.aload_n 0, 1) := by decide +kernel
theorem d_Ch_setSlips_56 : decode m_Ch_setSlips.2.1 56 = .ok (.getfield 15, 3) := by decide +kernel
theorem d_Ch_setSlips_59 : decode m_Ch_setSlips.2.1 59 = .ok (.iload 7, 2) := by decide +kernel
theorem d_Ch_setSlips_61 : decode m_Ch_setSlips.2.1 61 = .ok (.iconst 1, 1) := by decide +kernel
theorem d_Ch_setSlips_62 : decode m_Ch_setSlips.2.1 62 = .ok (.isub, 1) := by decide +kernel
theorem d_Ch_setSlips_63 : decode m_Ch_setSlips.2.1 63 = .ok (.laload, 1) := by decide +kernel
theorem d_Ch_setSlips_64 : decode m_Ch_setSlips.2.1 64 = .ok (.iload_n 1, 1) := by decide +kernel
theorem d_Ch_setSlips_65 : decode m_Ch_setSlips.2.1 65 = .ok (.i2l, 1) := by decide +kernel
theorem d_Ch_setSlips_66 : decode m_Ch_setSlips.2.1 66 = .ok (.lmul, 1) := by decide +kernel
theorem d_Ch_setSlips_67 : decode m_Ch_setSlips.2.1 67 = .ok (.ladd, 1) := by decide +kernel
theorem d_Ch_setSlips_68 : decode m_Ch_setSlips.2.1 68 = .ok (.lastore, 1) := by decide +kernel
theorem d_Ch_setSlips_69 : decode m_Ch_setSlips.2.1 69 = .ok (.iinc 7 (-1), 3) := by decide +kernel
theorem d_Ch_setSlips_72 : decode m_Ch_setSlips.2.1 72 = .ok (.goto (-41), 3) := by decide +kernel
theorem d_Ch_set_0 : decode m_Ch_set.2.1 0 = .ok (.lload_n 1, 1) := by decide +kernel
theorem d_Ch_set_1 : decode m_Ch_set.2.1 1 = .ok (.lload_n 3, 1) := by decide +kernel
theorem d_Ch_set_2 : decode m_Ch_set.2.1 2 = .ok (.invokestatic 22, 3) := by decide +kernel
abbrev m_Ch_commonDivisor : aw_MI := (⟨"MaypoleGreen$Chances", "commonDivisor", "(JJ)J"⟩, prog_2_method_3_code, 11, some .long)
theorem lk_Ch_22 : Cond.methodLink "MaypoleGreen$Chances" 22 m_Ch_commonDivisor.1 ∈ aw_T := aw_in 1154 (by decide +kernel) rfl
theorem k_Ch_commonDivisor : aw_K m_Ch_commonDivisor 2 := ⟨aw_in 1156 (by decide +kernel) rfl, aw_in 15 (by decide +kernel) rfl, ⟨by decide, by decide, by decide +kernel⟩, by decide, by decide +kernel⟩
theorem st_Ch_commonDivisor : Cond.static m_Ch_commonDivisor.1 ∈ aw_T := aw_in 1155 (by decide +kernel) rfl
theorem d_Ch_set_5 : decode m_Ch_set.2.1 5 = .ok (.lstore 5, 2) := by decide +kernel
theorem d_Ch_set_7 : decode m_Ch_set.2.1 7 = .ok (.aload_n 0, 1) := by decide +kernel
theorem d_Ch_set_8 : decode m_Ch_set.2.1 8 = .ok (.lload 5, 2) := by decide +kernel
theorem d_Ch_set_10 : decode m_Ch_set.2.1 10 = .ok (.lconst 0, 1) := by decide +kernel
theorem d_Ch_set_11 : decode m_Ch_set.2.1 11 = .ok (.lcmp, 1) := by decide +kernel
theorem d_Ch_set_12 : decode m_Ch_set.2.1 12 = .ok (.ifCond .ne 7, 3) := by decide +kernel
theorem d_Ch_set_19 : decode m_Ch_set.2.1 19 = .ok (.lload_n 1, 1) := by decide +kernel
theorem d_Ch_set_20 : decode m_Ch_set.2.1 20 = .ok (.lload 5, 2) := by decide +kernel
theorem d_Ch_set_22 : decode m_Ch_set.2.1 22 = .ok (.ldiv, 1) := by decide +kernel
theorem d_Ch_set_23 : decode m_Ch_set.2.1 23 = .ok (.putfield 26, 3) := by decide +kernel
theorem f_Ch_26 : aw_F "MaypoleGreen$Chances" 26 10 0 false := ⟨cR10, cT10, 4, fun k => cY10.getD k .int, rfl, ci10, cy10, cn10, rfl, by decide, aw_in 408 (by decide +kernel) rfl, rfl, rfl, rfl⟩
theorem d_Ch_set_26 : decode m_Ch_set.2.1 26 = .ok (.aload_n 0, 1) := by decide +kernel
theorem d_Ch_set_27 : decode m_Ch_set.2.1 27 = .ok (.lload 5, 2) := by decide +kernel
theorem d_Ch_set_29 : decode m_Ch_set.2.1 29 = .ok (.lconst 0, 1) := by decide +kernel
theorem d_Ch_set_30 : decode m_Ch_set.2.1 30 = .ok (.lcmp, 1) := by decide +kernel
theorem d_Ch_set_31 : decode m_Ch_set.2.1 31 = .ok (.ifCond .ne 7, 3) := by decide +kernel
theorem d_Ch_set_38 : decode m_Ch_set.2.1 38 = .ok (.lload_n 3, 1) := by decide +kernel
theorem d_Ch_set_39 : decode m_Ch_set.2.1 39 = .ok (.lload 5, 2) := by decide +kernel
theorem d_Ch_set_41 : decode m_Ch_set.2.1 41 = .ok (.ldiv, 1) := by decide +kernel
theorem d_Ch_set_42 : decode m_Ch_set.2.1 42 = .ok (.putfield 9, 3) := by decide +kernel
theorem f_Ch_9 : aw_F "MaypoleGreen$Chances" 9 10 1 false := ⟨cR10, cT10, 4, fun k => cY10.getD k .int, rfl, ci10, cy10, cn10, rfl, by decide, aw_in 410 (by decide +kernel) rfl, rfl, rfl, rfl⟩
theorem d_Ch_set_45 : decode m_Ch_set.2.1 45 = .ok (.return_, 1) := by decide +kernel
theorem d_Ch_set_34 : decode m_Ch_set.2.1 34 = .ok (.lconst 1, 1) := by decide +kernel
theorem d_Ch_set_35 : decode m_Ch_set.2.1 35 = .ok (.goto 7, 3) := by decide +kernel
theorem d_Ch_set_15 : decode m_Ch_set.2.1 15 = .ok (.lconst 0, 1) := by decide +kernel
theorem d_Ch_set_16 : decode m_Ch_set.2.1 16 = .ok (.goto 7, 3) := by decide +kernel
theorem d_Ch_commonDivisor_0 : decode m_Ch_commonDivisor.2.1 0 = .ok (.lload_n 0, 1) := by decide +kernel
theorem d_Ch_commonDivisor_1 : decode m_Ch_commonDivisor.2.1 1 = .ok (.lstore 4, 2) := by decide +kernel
theorem d_Ch_commonDivisor_3 : decode m_Ch_commonDivisor.2.1 3 = .ok (.lload_n 2, 1) := by decide +kernel
theorem d_Ch_commonDivisor_4 : decode m_Ch_commonDivisor.2.1 4 = .ok (.lstore 6, 2) := by decide +kernel
theorem d_Ch_commonDivisor_6 : decode m_Ch_commonDivisor.2.1 6 = .ok (.iconst 0, 1) := by decide +kernel
theorem d_Ch_commonDivisor_7 : decode m_Ch_commonDivisor.2.1 7 = .ok (.istore 8, 2) := by decide +kernel
theorem d_Ch_commonDivisor_9 : decode m_Ch_commonDivisor.2.1 9 = .ok (.iload 8, 2) := by decide +kernel
theorem d_Ch_commonDivisor_11 : decode m_Ch_commonDivisor.2.1 11 = .ok (.bipush 100, 2) := by decide +kernel
theorem d_Ch_commonDivisor_13 : decode m_Ch_commonDivisor.2.1 13 = .ok (.if_icmp .ge 31, 3) := by decide +kernel
theorem d_Ch_commonDivisor_44 : decode m_Ch_commonDivisor.2.1 44 = .ok (.lload 4, 2) := by decide +kernel
theorem d_Ch_commonDivisor_46 : decode m_Ch_commonDivisor.2.1 46 = .ok (.lreturn, 1) := by decide +kernel
theorem d_Ch_commonDivisor_16 : decode m_Ch_commonDivisor.2.1 16 = .ok (.lload 6, 2) := by decide +kernel
theorem d_Ch_commonDivisor_18 : decode m_Ch_commonDivisor.2.1 18 = .ok (.lconst 0, 1) := by decide +kernel
theorem d_Ch_commonDivisor_19 : decode m_Ch_commonDivisor.2.1 19 = .ok (.lcmp, 1) := by decide +kernel
theorem d_Ch_commonDivisor_20 : decode m_Ch_commonDivisor.2.1 20 = .ok (.ifCond .eq 24, 3) := by decide +kernel
theorem d_Ch_commonDivisor_23 : decode m_Ch_commonDivisor.2.1 23 = .ok (.lload 4, 2) := by decide +kernel
theorem d_Ch_commonDivisor_25 : decode m_Ch_commonDivisor.2.1 25 = .ok (.lload 6, 2) := by decide +kernel
theorem d_Ch_commonDivisor_27 : decode m_Ch_commonDivisor.2.1 27 = .ok (.lrem, 1) := by decide +kernel
theorem d_Ch_commonDivisor_28 : decode m_Ch_commonDivisor.2.1 28 = .ok (.lstore 9, 2) := by decide +kernel
theorem d_Ch_commonDivisor_30 : decode m_Ch_commonDivisor.2.1 30 = .ok (.lload 6, 2) := by decide +kernel
theorem d_Ch_commonDivisor_32 : decode m_Ch_commonDivisor.2.1 32 = .ok (.lstore 4, 2) := by decide +kernel
theorem d_Ch_commonDivisor_34 : decode m_Ch_commonDivisor.2.1 34 = .ok (.lload 9, 2) := by decide +kernel
theorem d_Ch_commonDivisor_36 : decode m_Ch_commonDivisor.2.1 36 = .ok (.lstore 6, 2) := by decide +kernel
theorem d_Ch_commonDivisor_38 : decode m_Ch_commonDivisor.2.1 38 = .ok (.iinc 8 1, 3) := by decide +kernel
theorem d_Ch_commonDivisor_41 : decode m_Ch_commonDivisor.2.1 41 = .ok (.goto (-32), 3) := by decide +kernel
abbrev m_Ch_setDrift : aw_MI := (⟨"MaypoleGreen$Chances", "setDrift", "(LMaypoleGreen$Green;III)V"⟩, prog_2_method_5_code, 11, none)
theorem k_Ch_setDrift : aw_K m_Ch_setDrift 4 := ⟨aw_in 1164 (by decide +kernel) rfl, aw_in 15 (by decide +kernel) rfl, ⟨by decide, by decide, by decide +kernel⟩, by decide, by decide +kernel⟩
theorem d_Ch_setDrift_0 : decode m_Ch_setDrift.2.1 0 = .ok (.aload_n 0, 1) := by decide +kernel
theorem d_Ch_setDrift_1 : decode m_Ch_setDrift.2.1 1 = .ok (.getfield 15, 3) := by decide +kernel
theorem d_Ch_setDrift_4 : decode m_Ch_setDrift.2.1 4 = .ok (.lconst 0, 1) := by decide +kernel
theorem d_Ch_setDrift_5 : decode m_Ch_setDrift.2.1 5 = .ok (.invokestatic 29, 3) := by decide +kernel
theorem d_Ch_setDrift_8 : decode m_Ch_setDrift.2.1 8 = .ok (.aload_n 0, 1) := by decide +kernel
theorem d_Ch_setDrift_9 : decode m_Ch_setDrift.2.1 9 = .ok (.getfield 15, 3) := by decide +kernel
theorem d_Ch_setDrift_12 : decode m_Ch_setDrift.2.1 12 = .ok (.iload_n 2, 1) := by decide +kernel
theorem d_Ch_setDrift_13 : decode m_Ch_setDrift.2.1 13 = .ok (.lconst 1, 1) := by decide +kernel
theorem d_Ch_setDrift_14 : decode m_Ch_setDrift.2.1 14 = .ok (.lastore, 1) := by decide +kernel
theorem d_Ch_setDrift_15 : decode m_Ch_setDrift.2.1 15 = .ok (.lconst 1, 1) := by decide +kernel
theorem d_Ch_setDrift_16 : decode m_Ch_setDrift.2.1 16 = .ok (.lstore 5, 2) := by decide +kernel
theorem d_Ch_setDrift_18 : decode m_Ch_setDrift.2.1 18 = .ok (.aload_n 1, 1) := by decide +kernel
theorem d_Ch_setDrift_19 : decode m_Ch_setDrift.2.1 19 = .ok (.invokevirtual 41, 3) := by decide +kernel
theorem lk_Ch_41 : Cond.methodLink "MaypoleGreen$Chances" 41 m_Gr_gaps.1 ∈ aw_T := aw_in 1165 (by decide +kernel) rfl
theorem d_Ch_setDrift_22 : decode m_Ch_setDrift.2.1 22 = .ok (.istore 7, 2) := by decide +kernel
theorem d_Ch_setDrift_24 : decode m_Ch_setDrift.2.1 24 = .ok (.iconst 0, 1) := by decide +kernel
theorem d_Ch_setDrift_25 : decode m_Ch_setDrift.2.1 25 = .ok (.istore 8, 2) := by decide +kernel
theorem d_Ch_setDrift_27 : decode m_Ch_setDrift.2.1 27 = .ok (.iload 8, 2) := by decide +kernel
theorem d_Ch_setDrift_29 : decode m_Ch_setDrift.2.1 29 = .ok (.iload 4, 2) := by decide +kernel
theorem d_Ch_setDrift_31 : decode m_Ch_setDrift.2.1 31 = .ok (.if_icmp .ge 99, 3) := by decide +kernel
theorem d_Ch_setDrift_130 : decode m_Ch_setDrift.2.1 130 = .ok (.aload_n 0, 1) := by decide +kernel
theorem d_Ch_setDrift_131 : decode m_Ch_setDrift.2.1 131 = .ok (.aload_n 0, 1) := by decide +kernel
theorem d_Ch_setDrift_132 : decode m_Ch_setDrift.2.1 132 = .ok (.getfield 15, 3) := by decide +kernel
theorem d_Ch_setDrift_135 : decode m_Ch_setDrift.2.1 135 = .ok (.iload_n 3, 1) := by decide +kernel
theorem d_Ch_setDrift_136 : decode m_Ch_setDrift.2.1 136 = .ok (.laload, 1) := by decide +kernel
theorem d_Ch_setDrift_137 : decode m_Ch_setDrift.2.1 137 = .ok (.lload 5, 2) := by decide +kernel
theorem d_Ch_setDrift_139 : decode m_Ch_setDrift.2.1 139 = .ok (.invokevirtual 37, 3) := by decide +kernel
theorem d_Ch_setDrift_142 : decode m_Ch_setDrift.2.1 142 = .ok (.return_, 1) := by decide +kernel
theorem d_Ch_setDrift_34 : decode m_Ch_setDrift.2.1 34 = .ok (.aload_n 0, 1) := by decide +kernel
theorem d_Ch_setDrift_35 : decode m_Ch_setDrift.2.1 35 = .ok (.getfield 19, 3) := by decide +kernel
theorem f_Ch_19 : aw_F "MaypoleGreen$Chances" 19 10 3 true := ⟨cR10, cT10, 4, fun k => cY10.getD k .int, rfl, ci10, cy10, cn10, rfl, by decide, aw_in 413 (by decide +kernel) rfl, rfl, rfl, rfl⟩
theorem d_Ch_setDrift_38 : decode m_Ch_setDrift.2.1 38 = .ok (.lconst 0, 1) := by decide +kernel
theorem d_Ch_setDrift_39 : decode m_Ch_setDrift.2.1 39 = .ok (.invokestatic 29, 3) := by decide +kernel
theorem d_Ch_setDrift_42 : decode m_Ch_setDrift.2.1 42 = .ok (.iconst 0, 1) := by decide +kernel
theorem d_Ch_setDrift_43 : decode m_Ch_setDrift.2.1 43 = .ok (.istore 9, 2) := by decide +kernel
theorem d_Ch_setDrift_45 : decode m_Ch_setDrift.2.1 45 = .ok (.iload 9, 2) := by decide +kernel
theorem d_Ch_setDrift_47 : decode m_Ch_setDrift.2.1 47 = .ok (.aload_n 1, 1) := by decide +kernel
theorem d_Ch_setDrift_48 : decode m_Ch_setDrift.2.1 48 = .ok (.getfield 47, 3) := by decide +kernel
theorem f_Ch_47 : aw_F "MaypoleGreen$Chances" 47 2 0 false := ⟨cR2, cT2, 13, fun k => cY2.getD k .int, rfl, ci2, cy2, cn2, rfl, by decide, aw_in 125 (by decide +kernel) rfl, rfl, rfl, rfl⟩
theorem d_Ch_setDrift_51 : decode m_Ch_setDrift.2.1 51 = .ok (.if_icmp .ge 48, 3) := by decide +kernel
theorem d_Ch_setDrift_99 : decode m_Ch_setDrift.2.1 99 = .ok (.aload_n 0, 1) := by decide +kernel
theorem d_Ch_setDrift_100 : decode m_Ch_setDrift.2.1 100 = .ok (.getfield 19, 3) := by decide +kernel
theorem d_Ch_setDrift_103 : decode m_Ch_setDrift.2.1 103 = .ok (.iconst 0, 1) := by decide +kernel
theorem d_Ch_setDrift_104 : decode m_Ch_setDrift.2.1 104 = .ok (.aload_n 0, 1) := by decide +kernel
theorem d_Ch_setDrift_105 : decode m_Ch_setDrift.2.1 105 = .ok (.getfield 15, 3) := by decide +kernel
theorem d_Ch_setDrift_108 : decode m_Ch_setDrift.2.1 108 = .ok (.iconst 0, 1) := by decide +kernel
theorem d_Ch_setDrift_109 : decode m_Ch_setDrift.2.1 109 = .ok (.aload_n 1, 1) := by decide +kernel
theorem d_Ch_setDrift_110 : decode m_Ch_setDrift.2.1 110 = .ok (.getfield 47, 3) := by decide +kernel
theorem d_Ch_setDrift_113 : decode m_Ch_setDrift.2.1 113 = .ok (.invokestatic 55, 3) := by decide +kernel
theorem ck_Ch_55 : Cond.methodLink "MaypoleGreen$Chances" 55 arraycopyName ∈ aw_T := aw_in 1170 (by decide +kernel) rfl
theorem d_Ch_setDrift_116 : decode m_Ch_setDrift.2.1 116 = .ok (.lload 5, 2) := by decide +kernel
theorem d_Ch_setDrift_118 : decode m_Ch_setDrift.2.1 118 = .ok (.iload 7, 2) := by decide +kernel
theorem d_Ch_setDrift_120 : decode m_Ch_setDrift.2.1 120 = .ok (.i2l, 1) := by decide +kernel
theorem d_Ch_setDrift_121 : decode m_Ch_setDrift.2.1 121 = .ok (.lmul, 1) := by decide +kernel
theorem d_Ch_setDrift_122 : decode m_Ch_setDrift.2.1 122 = .ok (.lstore 5, 2) := by decide +kernel
theorem d_Ch_setDrift_124 : decode m_Ch_setDrift.2.1 124 = .ok (.iinc 8 1, 3) := by decide +kernel
theorem d_Ch_setDrift_127 : decode m_Ch_setDrift.2.1 127 = .ok (.goto (-100), 3) := by decide +kernel
theorem d_Ch_setDrift_54 : decode m_Ch_setDrift.2.1 54 = .ok (.iconst 0, 1) := by decide +kernel
theorem d_Ch_setDrift_55 : decode m_Ch_setDrift.2.1 55 = .ok (.istore 10, 2) := by decide +kernel
theorem d_Ch_setDrift_57 : decode m_Ch_setDrift.2.1 57 = .ok (.iload 10, 2) := by decide +kernel
theorem d_Ch_setDrift_59 : decode m_Ch_setDrift.2.1 59 = .ok (.iload 7, 2) := by decide +kernel
theorem d_Ch_setDrift_61 : decode m_Ch_setDrift.2.1 61 = .ok (.if_icmp .ge 32, 3) := by decide +kernel
theorem d_Ch_setDrift_93 : decode m_Ch_setDrift.2.1 93 = .ok (.iinc 9 1, 3) := by decide +kernel
theorem d_Ch_setDrift_96 : decode m_Ch_setDrift.2.1 96 = .ok (.goto (-51), 3) := by decide +kernel
theorem d_Ch_setDrift_64 : decode m_Ch_setDrift.2.1 64 = .ok (.aload_n 0, 1) := by decide +kernel
theorem d_Ch_setDrift_65 : decode m_Ch_setDrift.2.1 65 = .ok (.getfield 19, 3) := by decide +kernel
theorem d_Ch_setDrift_68 : decode m_Ch_setDrift.2.1 68 = .ok (.aload_n 1, 1) := by decide +kernel
theorem d_Ch_setDrift_69 : decode m_Ch_setDrift.2.1 69 = .ok (.iload 9, 2) := by decide +kernel
theorem d_Ch_setDrift_71 : decode m_Ch_setDrift.2.1 71 = .ok (.iload 10, 2) := by decide +kernel
theorem d_Ch_setDrift_73 : decode m_Ch_setDrift.2.1 73 = .ok (.invokevirtual 51, 3) := by decide +kernel
theorem lk_Ch_51 : Cond.methodLink "MaypoleGreen$Chances" 51 m_Gr_placeBehind.1 ∈ aw_T := aw_in 1166 (by decide +kernel) rfl
theorem in_Gr_placeBehind : Cond.instanceMethod m_Gr_placeBehind.1 ∈ aw_T := aw_in 1167 (by decide +kernel) rfl
theorem se_Gr_placeBehind : Cond.selects m_Gr_placeBehind.1.cls m_Gr_placeBehind.1 m_Gr_placeBehind.1 ∈ aw_T := aw_in 1168 (by decide +kernel) rfl
theorem d_Ch_setDrift_76 : decode m_Ch_setDrift.2.1 76 = .ok (.dup2, 1) := by decide +kernel
theorem d_Ch_setDrift_77 : decode m_Ch_setDrift.2.1 77 = .ok (.laload, 1) := by decide +kernel
theorem d_Ch_setDrift_78 : decode m_Ch_setDrift.2.1 78 = .ok (.aload_n 0, 1) := by decide +kernel
theorem d_Ch_setDrift_79 : decode m_Ch_setDrift.2.1 79 = .ok (.getfield 15, 3) := by decide +kernel
theorem d_Ch_setDrift_82 : decode m_Ch_setDrift.2.1 82 = .ok (.iload 9, 2) := by decide +kernel
theorem d_Ch_setDrift_84 : decode m_Ch_setDrift.2.1 84 = .ok (.laload, 1) := by decide +kernel
theorem d_Ch_setDrift_85 : decode m_Ch_setDrift.2.1 85 = .ok (.ladd, 1) := by decide +kernel
theorem d_Ch_setDrift_86 : decode m_Ch_setDrift.2.1 86 = .ok (.lastore, 1) := by decide +kernel
theorem d_Ch_setDrift_87 : decode m_Ch_setDrift.2.1 87 = .ok (.iinc 10 1, 3) := by decide +kernel
theorem d_Ch_setDrift_90 : decode m_Ch_setDrift.2.1 90 = .ok (.goto (-33), 3) := by decide +kernel
