abbrev m_Md_slipAt : aw_MI := (⟨"MaypoleGreenModel", "slipAt", "(III)I"⟩, prog_14_method_111_code, 5, some .int)
theorem k_Md_slipAt : aw_K m_Md_slipAt 3 := ⟨aw_in 1844 (by decide +kernel) rfl, aw_in 16 (by decide +kernel) rfl, ⟨by decide, by decide, by decide +kernel⟩, by decide, by decide +kernel⟩
theorem d_Md_slipAt_0 : decode m_Md_slipAt.2.1 0 = .ok (.iload_n 3, 1) := by decide +kernel
theorem d_Md_slipAt_1 : decode m_Md_slipAt.2.1 1 = .ok (.ifCond .ge 7, 3) := by decide +kernel
theorem d_Md_slipAt_8 : decode m_Md_slipAt.2.1 8 = .ok (.aload_n 0, 1) := by decide +kernel
theorem d_Md_slipAt_9 : decode m_Md_slipAt.2.1 9 = .ok (.iload_n 1, 1) := by decide +kernel
theorem d_Md_slipAt_10 : decode m_Md_slipAt.2.1 10 = .ok (.iload_n 2, 1) := by decide +kernel
theorem d_Md_slipAt_11 : decode m_Md_slipAt.2.1 11 = .ok (.invokevirtual 420, 3) := by decide +kernel
theorem d_Md_slipAt_14 : decode m_Md_slipAt.2.1 14 = .ok (.istore 4, 2) := by decide +kernel
theorem d_Md_slipAt_16 : decode m_Md_slipAt.2.1 16 = .ok (.iload 4, 2) := by decide +kernel
theorem d_Md_slipAt_18 : decode m_Md_slipAt.2.1 18 = .ok (.ifCond .le 12, 3) := by decide +kernel
theorem d_Md_slipAt_30 : decode m_Md_slipAt.2.1 30 = .ok (.aload_n 0, 1) := by decide +kernel
theorem d_Md_slipAt_31 : decode m_Md_slipAt.2.1 31 = .ok (.aload_n 0, 1) := by decide +kernel
theorem d_Md_slipAt_32 : decode m_Md_slipAt.2.1 32 = .ok (.iload_n 1, 1) := by decide +kernel
theorem d_Md_slipAt_33 : decode m_Md_slipAt.2.1 33 = .ok (.iload_n 2, 1) := by decide +kernel
theorem d_Md_slipAt_34 : decode m_Md_slipAt.2.1 34 = .ok (.iload_n 3, 1) := by decide +kernel
theorem d_Md_slipAt_35 : decode m_Md_slipAt.2.1 35 = .ok (.invokevirtual 430, 3) := by decide +kernel
theorem d_Md_slipAt_38 : decode m_Md_slipAt.2.1 38 = .ok (.invokevirtual 433, 3) := by decide +kernel
abbrev m_Md_orNone : aw_MI := (⟨"MaypoleGreenModel", "orNone", "(I)I"⟩, prog_14_method_9_code, 2, some .int)
theorem lk_Md_433 : Cond.methodLink "MaypoleGreenModel" 433 m_Md_orNone.1 ∈ aw_T := aw_in 1845 (by decide +kernel) rfl
theorem k_Md_orNone : aw_K m_Md_orNone 1 := ⟨aw_in 1848 (by decide +kernel) rfl, aw_in 16 (by decide +kernel) rfl, ⟨by decide, by decide, by decide +kernel⟩, by decide, by decide +kernel⟩
theorem in_Md_orNone : Cond.instanceMethod m_Md_orNone.1 ∈ aw_T := aw_in 1847 (by decide +kernel) rfl
theorem se_Md_orNone : Cond.selects m_Md_orNone.1.cls m_Md_orNone.1 m_Md_orNone.1 ∈ aw_T := aw_inP 123 (by decide +kernel) rfl
theorem d_Md_slipAt_41 : decode m_Md_slipAt.2.1 41 = .ok (.ireturn, 1) := by decide +kernel
theorem d_Md_slipAt_21 : decode m_Md_slipAt.2.1 21 = .ok (.aload_n 0, 1) := by decide +kernel
theorem d_Md_slipAt_22 : decode m_Md_slipAt.2.1 22 = .ok (.iload 4, 2) := by decide +kernel
theorem d_Md_slipAt_24 : decode m_Md_slipAt.2.1 24 = .ok (.invokevirtual 118, 3) := by decide +kernel
theorem d_Md_slipAt_27 : decode m_Md_slipAt.2.1 27 = .ok (.goto 14, 3) := by decide +kernel
theorem d_Md_slipAt_4 : decode m_Md_slipAt.2.1 4 = .ok (.iconst 1, 1) := by decide +kernel
theorem d_Md_slipAt_5 : decode m_Md_slipAt.2.1 5 = .ok (.goto 9, 3) := by decide +kernel
theorem d_Md_orNone_0 : decode m_Md_orNone.2.1 0 = .ok (.iload_n 1, 1) := by decide +kernel
theorem d_Md_orNone_1 : decode m_Md_orNone.2.1 1 = .ok (.iconst (-1), 1) := by decide +kernel
theorem d_Md_orNone_2 : decode m_Md_orNone.2.1 2 = .ok (.if_icmp .ne 10, 3) := by decide +kernel
theorem d_Md_orNone_12 : decode m_Md_orNone.2.1 12 = .ok (.aload_n 0, 1) := by decide +kernel
theorem d_Md_orNone_13 : decode m_Md_orNone.2.1 13 = .ok (.iload_n 1, 1) := by decide +kernel
theorem d_Md_orNone_14 : decode m_Md_orNone.2.1 14 = .ok (.invokevirtual 122, 3) := by decide +kernel
theorem d_Md_orNone_17 : decode m_Md_orNone.2.1 17 = .ok (.ireturn, 1) := by decide +kernel
theorem d_Md_orNone_5 : decode m_Md_orNone.2.1 5 = .ok (.aload_n 0, 1) := by decide +kernel
theorem d_Md_orNone_6 : decode m_Md_orNone.2.1 6 = .ok (.bipush 6, 2) := by decide +kernel
theorem d_Md_orNone_8 : decode m_Md_orNone.2.1 8 = .ok (.invokevirtual 118, 3) := by decide +kernel
theorem d_Md_orNone_11 : decode m_Md_orNone.2.1 11 = .ok (.ireturn, 1) := by decide +kernel
abbrev m_Md_fits : aw_MI := (⟨"MaypoleGreenModel", "fits", "(III)I"⟩, prog_14_method_118_code, 5, some .int)
theorem k_Md_fits : aw_K m_Md_fits 3 := ⟨aw_in 1852 (by decide +kernel) rfl, aw_in 16 (by decide +kernel) rfl, ⟨by decide, by decide, by decide +kernel⟩, by decide, by decide +kernel⟩
theorem d_Md_fits_0 : decode m_Md_fits.2.1 0 = .ok (.aload_n 0, 1) := by decide +kernel
theorem d_Md_fits_1 : decode m_Md_fits.2.1 1 = .ok (.iload_n 1, 1) := by decide +kernel
theorem d_Md_fits_2 : decode m_Md_fits.2.1 2 = .ok (.iload_n 2, 1) := by decide +kernel
theorem d_Md_fits_3 : decode m_Md_fits.2.1 3 = .ok (.iload_n 3, 1) := by decide +kernel
theorem d_Md_fits_4 : decode m_Md_fits.2.1 4 = .ok (.invokevirtual 457, 3) := by decide +kernel
abbrev m_Md_wrongSeen : aw_MI := (⟨"MaypoleGreenModel", "wrongSeen", "(III)I"⟩, prog_14_method_115_code, 6, some .int)
theorem lk_Md_457 : Cond.methodLink "MaypoleGreenModel" 457 m_Md_wrongSeen.1 ∈ aw_T := aw_in 1853 (by decide +kernel) rfl
theorem k_Md_wrongSeen : aw_K m_Md_wrongSeen 3 := ⟨aw_in 1856 (by decide +kernel) rfl, aw_in 16 (by decide +kernel) rfl, ⟨by decide, by decide, by decide +kernel⟩, by decide, by decide +kernel⟩
theorem in_Md_wrongSeen : Cond.instanceMethod m_Md_wrongSeen.1 ∈ aw_T := aw_in 1855 (by decide +kernel) rfl
theorem se_Md_wrongSeen : Cond.selects m_Md_wrongSeen.1.cls m_Md_wrongSeen.1 m_Md_wrongSeen.1 ∈ aw_T := aw_inP 124 (by decide +kernel) rfl
theorem d_Md_fits_7 : decode m_Md_fits.2.1 7 = .ok (.istore 4, 2) := by decide +kernel
theorem d_Md_fits_9 : decode m_Md_fits.2.1 9 = .ok (.iload 4, 2) := by decide +kernel
theorem d_Md_fits_11 : decode m_Md_fits.2.1 11 = .ok (.ifCond .le 10, 3) := by decide +kernel
theorem d_Md_fits_21 : decode m_Md_fits.2.1 21 = .ok (.aload_n 0, 1) := by decide +kernel
theorem d_Md_fits_22 : decode m_Md_fits.2.1 22 = .ok (.iload_n 1, 1) := by decide +kernel
theorem d_Md_fits_23 : decode m_Md_fits.2.1 23 = .ok (.iload_n 2, 1) := by decide +kernel
theorem d_Md_fits_24 : decode m_Md_fits.2.1 24 = .ok (.iload_n 3, 1) := by decide +kernel
theorem d_Md_fits_25 : decode m_Md_fits.2.1 25 = .ok (.invokevirtual 460, 3) := by decide +kernel
abbrev m_Md_laysRowsSeen : aw_MI := (⟨"MaypoleGreenModel", "laysRowsSeen", "(III)V"⟩, prog_14_method_117_code, 6, none)
theorem lk_Md_460 : Cond.methodLink "MaypoleGreenModel" 460 m_Md_laysRowsSeen.1 ∈ aw_T := aw_in 1860 (by decide +kernel) rfl
theorem k_Md_laysRowsSeen : aw_K m_Md_laysRowsSeen 3 := ⟨aw_in 1863 (by decide +kernel) rfl, aw_in 16 (by decide +kernel) rfl, ⟨by decide, by decide, by decide +kernel⟩, by decide, by decide +kernel⟩
theorem in_Md_laysRowsSeen : Cond.instanceMethod m_Md_laysRowsSeen.1 ∈ aw_T := aw_in 1862 (by decide +kernel) rfl
theorem se_Md_laysRowsSeen : Cond.selects m_Md_laysRowsSeen.1.cls m_Md_laysRowsSeen.1 m_Md_laysRowsSeen.1 ∈ aw_T := aw_inP 125 (by decide +kernel) rfl
theorem d_Md_fits_28 : decode m_Md_fits.2.1 28 = .ok (.aload_n 0, 1) := by decide +kernel
theorem d_Md_fits_29 : decode m_Md_fits.2.1 29 = .ok (.aload_n 0, 1) := by decide +kernel
theorem d_Md_fits_30 : decode m_Md_fits.2.1 30 = .ok (.getfield 442, 3) := by decide +kernel
theorem f_Md_442 : aw_F "MaypoleGreenModel" 442 11 39 false := ⟨cR11, cT11, 52, fun k => cY11.getD k .int, rfl, ci11, cy11, cn11, rfl, by decide, aw_in 1294 (by decide +kernel) rfl, rfl, rfl, rfl⟩
theorem d_Md_fits_33 : decode m_Md_fits.2.1 33 = .ok (.invokevirtual 122, 3) := by decide +kernel
theorem d_Md_fits_36 : decode m_Md_fits.2.1 36 = .ok (.ireturn, 1) := by decide +kernel
theorem d_Md_fits_14 : decode m_Md_fits.2.1 14 = .ok (.aload_n 0, 1) := by decide +kernel
theorem d_Md_fits_15 : decode m_Md_fits.2.1 15 = .ok (.iload 4, 2) := by decide +kernel
theorem d_Md_fits_17 : decode m_Md_fits.2.1 17 = .ok (.invokevirtual 118, 3) := by decide +kernel
theorem d_Md_fits_20 : decode m_Md_fits.2.1 20 = .ok (.ireturn, 1) := by decide +kernel
theorem d_Md_wrongSeen_0 : decode m_Md_wrongSeen.2.1 0 = .ok (.iload_n 1, 1) := by decide +kernel
theorem d_Md_wrongSeen_1 : decode m_Md_wrongSeen.2.1 1 = .ok (.invokestatic 129, 3) := by decide +kernel
theorem d_Md_wrongSeen_4 : decode m_Md_wrongSeen.2.1 4 = .ok (.ifCond .eq 27, 3) := by decide +kernel
theorem d_Md_wrongSeen_31 : decode m_Md_wrongSeen.2.1 31 = .ok (.iconst 1, 1) := by decide +kernel
theorem d_Md_wrongSeen_32 : decode m_Md_wrongSeen.2.1 32 = .ok (.ireturn, 1) := by decide +kernel
theorem d_Md_wrongSeen_7 : decode m_Md_wrongSeen.2.1 7 = .ok (.iload_n 2, 1) := by decide +kernel
theorem d_Md_wrongSeen_8 : decode m_Md_wrongSeen.2.1 8 = .ok (.i2l, 1) := by decide +kernel
theorem d_Md_wrongSeen_9 : decode m_Md_wrongSeen.2.1 9 = .ok (.lconst 0, 1) := by decide +kernel
theorem d_Md_wrongSeen_10 : decode m_Md_wrongSeen.2.1 10 = .ok (.ldc2_w 436, 3) := by decide +kernel
theorem cl_Md_436 : Cond.constantLong "MaypoleGreenModel" 436 (20) ∈ aw_T := aw_in 1857 (by decide +kernel) rfl
theorem d_Md_wrongSeen_13 : decode m_Md_wrongSeen.2.1 13 = .ok (.invokestatic 372, 3) := by decide +kernel
theorem d_Md_wrongSeen_16 : decode m_Md_wrongSeen.2.1 16 = .ok (.ifCond .eq 15, 3) := by decide +kernel
theorem d_Md_wrongSeen_19 : decode m_Md_wrongSeen.2.1 19 = .ok (.iload_n 3, 1) := by decide +kernel
theorem d_Md_wrongSeen_20 : decode m_Md_wrongSeen.2.1 20 = .ok (.i2l, 1) := by decide +kernel
theorem d_Md_wrongSeen_21 : decode m_Md_wrongSeen.2.1 21 = .ok (.lconst 0, 1) := by decide +kernel
theorem d_Md_wrongSeen_22 : decode m_Md_wrongSeen.2.1 22 = .ok (.ldc2_w 438, 3) := by decide +kernel
theorem cl_Md_438 : Cond.constantLong "MaypoleGreenModel" 438 (4) ∈ aw_T := aw_in 1858 (by decide +kernel) rfl
theorem d_Md_wrongSeen_25 : decode m_Md_wrongSeen.2.1 25 = .ok (.invokestatic 372, 3) := by decide +kernel
theorem d_Md_wrongSeen_28 : decode m_Md_wrongSeen.2.1 28 = .ok (.ifCond .ne 5, 3) := by decide +kernel
theorem d_Md_wrongSeen_33 : decode m_Md_wrongSeen.2.1 33 = .ok (.aload_n 0, 1) := by decide +kernel
theorem d_Md_wrongSeen_34 : decode m_Md_wrongSeen.2.1 34 = .ok (.getfield 24, 3) := by decide +kernel
theorem d_Md_wrongSeen_37 : decode m_Md_wrongSeen.2.1 37 = .ok (.iload_n 1, 1) := by decide +kernel
theorem d_Md_wrongSeen_38 : decode m_Md_wrongSeen.2.1 38 = .ok (.iaload, 1) := by decide +kernel
theorem d_Md_wrongSeen_39 : decode m_Md_wrongSeen.2.1 39 = .ok (.iconst (-1), 1) := by decide +kernel
theorem d_Md_wrongSeen_40 : decode m_Md_wrongSeen.2.1 40 = .ok (.if_icmp .ne 5, 3) := by decide +kernel
theorem d_Md_wrongSeen_45 : decode m_Md_wrongSeen.2.1 45 = .ok (.aload_n 0, 1) := by decide +kernel
theorem d_Md_wrongSeen_46 : decode m_Md_wrongSeen.2.1 46 = .ok (.getfield 24, 3) := by decide +kernel
theorem d_Md_wrongSeen_49 : decode m_Md_wrongSeen.2.1 49 = .ok (.iload_n 1, 1) := by decide +kernel
theorem d_Md_wrongSeen_50 : decode m_Md_wrongSeen.2.1 50 = .ok (.iaload, 1) := by decide +kernel
theorem d_Md_wrongSeen_51 : decode m_Md_wrongSeen.2.1 51 = .ok (.iconst 2, 1) := by decide +kernel
theorem d_Md_wrongSeen_52 : decode m_Md_wrongSeen.2.1 52 = .ok (.iload_n 2, 1) := by decide +kernel
theorem d_Md_wrongSeen_53 : decode m_Md_wrongSeen.2.1 53 = .ok (.imul, 1) := by decide +kernel
theorem d_Md_wrongSeen_54 : decode m_Md_wrongSeen.2.1 54 = .ok (.if_icmp .ge 5, 3) := by decide +kernel
theorem d_Md_wrongSeen_59 : decode m_Md_wrongSeen.2.1 59 = .ok (.iconst 0, 1) := by decide +kernel
theorem d_Md_wrongSeen_60 : decode m_Md_wrongSeen.2.1 60 = .ok (.istore 4, 2) := by decide +kernel
theorem d_Md_wrongSeen_57 : decode m_Md_wrongSeen.2.1 57 = .ok (.iconst 3, 1) := by decide +kernel
theorem d_Md_wrongSeen_58 : decode m_Md_wrongSeen.2.1 58 = .ok (.ireturn, 1) := by decide +kernel
theorem d_Md_wrongSeen_43 : decode m_Md_wrongSeen.2.1 43 = .ok (.iconst 2, 1) := by decide +kernel
theorem d_Md_wrongSeen_44 : decode m_Md_wrongSeen.2.1 44 = .ok (.ireturn, 1) := by decide +kernel
theorem d_Md_wrongSeen_62 : decode m_Md_wrongSeen.2.1 62 = .ok (.iload 4, 2) := by decide +kernel
theorem d_Md_wrongSeen_64 : decode m_Md_wrongSeen.2.1 64 = .ok (.iload_n 2, 1) := by decide +kernel
theorem d_Md_wrongSeen_65 : decode m_Md_wrongSeen.2.1 65 = .ok (.if_icmp .ge 63, 3) := by decide +kernel
theorem d_Md_wrongSeen_128 : decode m_Md_wrongSeen.2.1 128 = .ok (.iconst 0, 1) := by decide +kernel
theorem d_Md_wrongSeen_129 : decode m_Md_wrongSeen.2.1 129 = .ok (.ireturn, 1) := by decide +kernel
theorem d_Md_wrongSeen_68 : decode m_Md_wrongSeen.2.1 68 = .ok (.bipush 60, 2) := by decide +kernel
theorem d_Md_wrongSeen_70 : decode m_Md_wrongSeen.2.1 70 = .ok (.iload_n 1, 1) := by decide +kernel
theorem d_Md_wrongSeen_71 : decode m_Md_wrongSeen.2.1 71 = .ok (.imul, 1) := by decide +kernel
theorem d_Md_wrongSeen_72 : decode m_Md_wrongSeen.2.1 72 = .ok (.iconst 2, 1) := by decide +kernel
theorem d_Md_wrongSeen_73 : decode m_Md_wrongSeen.2.1 73 = .ok (.iload 4, 2) := by decide +kernel
theorem d_Md_wrongSeen_75 : decode m_Md_wrongSeen.2.1 75 = .ok (.imul, 1) := by decide +kernel
theorem d_Md_wrongSeen_76 : decode m_Md_wrongSeen.2.1 76 = .ok (.iadd, 1) := by decide +kernel
theorem d_Md_wrongSeen_77 : decode m_Md_wrongSeen.2.1 77 = .ok (.istore 5, 2) := by decide +kernel
theorem d_Md_wrongSeen_79 : decode m_Md_wrongSeen.2.1 79 = .ok (.aload_n 0, 1) := by decide +kernel
theorem d_Md_wrongSeen_80 : decode m_Md_wrongSeen.2.1 80 = .ok (.getfield 27, 3) := by decide +kernel
theorem d_Md_wrongSeen_83 : decode m_Md_wrongSeen.2.1 83 = .ok (.iload 5, 2) := by decide +kernel
theorem d_Md_wrongSeen_85 : decode m_Md_wrongSeen.2.1 85 = .ok (.laload, 1) := by decide +kernel
theorem d_Md_wrongSeen_86 : decode m_Md_wrongSeen.2.1 86 = .ok (.lconst 0, 1) := by decide +kernel
theorem d_Md_wrongSeen_87 : decode m_Md_wrongSeen.2.1 87 = .ok (.aload_n 0, 1) := by decide +kernel
theorem d_Md_wrongSeen_88 : decode m_Md_wrongSeen.2.1 88 = .ok (.iconst 0, 1) := by decide +kernel
theorem d_Md_wrongSeen_89 : decode m_Md_wrongSeen.2.1 89 = .ok (.invokevirtual 260, 3) := by decide +kernel
theorem d_Md_wrongSeen_92 : decode m_Md_wrongSeen.2.1 92 = .ok (.i2l, 1) := by decide +kernel
theorem d_Md_wrongSeen_93 : decode m_Md_wrongSeen.2.1 93 = .ok (.lconst 1, 1) := by decide +kernel
theorem d_Md_wrongSeen_94 : decode m_Md_wrongSeen.2.1 94 = .ok (.lsub, 1) := by decide +kernel
theorem d_Md_wrongSeen_95 : decode m_Md_wrongSeen.2.1 95 = .ok (.invokestatic 372, 3) := by decide +kernel
theorem d_Md_wrongSeen_98 : decode m_Md_wrongSeen.2.1 98 = .ok (.ifCond .eq 22, 3) := by decide +kernel
theorem d_Md_wrongSeen_120 : decode m_Md_wrongSeen.2.1 120 = .ok (.iconst 5, 1) := by decide +kernel
theorem d_Md_wrongSeen_121 : decode m_Md_wrongSeen.2.1 121 = .ok (.ireturn, 1) := by decide +kernel
theorem d_Md_wrongSeen_101 : decode m_Md_wrongSeen.2.1 101 = .ok (.aload_n 0, 1) := by decide +kernel
theorem d_Md_wrongSeen_102 : decode m_Md_wrongSeen.2.1 102 = .ok (.getfield 27, 3) := by decide +kernel
theorem d_Md_wrongSeen_105 : decode m_Md_wrongSeen.2.1 105 = .ok (.iload 5, 2) := by decide +kernel
theorem d_Md_wrongSeen_107 : decode m_Md_wrongSeen.2.1 107 = .ok (.iconst 1, 1) := by decide +kernel
theorem d_Md_wrongSeen_108 : decode m_Md_wrongSeen.2.1 108 = .ok (.iadd, 1) := by decide +kernel
theorem d_Md_wrongSeen_109 : decode m_Md_wrongSeen.2.1 109 = .ok (.laload, 1) := by decide +kernel
theorem d_Md_wrongSeen_110 : decode m_Md_wrongSeen.2.1 110 = .ok (.lconst 0, 1) := by decide +kernel
theorem d_Md_wrongSeen_111 : decode m_Md_wrongSeen.2.1 111 = .ok (.ldc2_w 440, 3) := by decide +kernel
theorem cl_Md_440 : Cond.constantLong "MaypoleGreenModel" 440 (6) ∈ aw_T := aw_in 1859 (by decide +kernel) rfl
theorem d_Md_wrongSeen_114 : decode m_Md_wrongSeen.2.1 114 = .ok (.invokestatic 372, 3) := by decide +kernel
theorem d_Md_wrongSeen_117 : decode m_Md_wrongSeen.2.1 117 = .ok (.ifCond .ne 5, 3) := by decide +kernel
theorem d_Md_wrongSeen_122 : decode m_Md_wrongSeen.2.1 122 = .ok (.iinc 4 1, 3) := by decide +kernel
theorem d_Md_wrongSeen_125 : decode m_Md_wrongSeen.2.1 125 = .ok (.goto (-63), 3) := by decide +kernel
theorem d_Md_laysRowsSeen_0 : decode m_Md_laysRowsSeen.2.1 0 = .ok (.aload_n 0, 1) := by decide +kernel
theorem d_Md_laysRowsSeen_1 : decode m_Md_laysRowsSeen.2.1 1 = .ok (.iconst 0, 1) := by decide +kernel
theorem d_Md_laysRowsSeen_2 : decode m_Md_laysRowsSeen.2.1 2 = .ok (.putfield 442, 3) := by decide +kernel
theorem d_Md_laysRowsSeen_5 : decode m_Md_laysRowsSeen.2.1 5 = .ok (.iconst 0, 1) := by decide +kernel
theorem d_Md_laysRowsSeen_6 : decode m_Md_laysRowsSeen.2.1 6 = .ok (.istore 4, 2) := by decide +kernel
theorem d_Md_laysRowsSeen_8 : decode m_Md_laysRowsSeen.2.1 8 = .ok (.iload 4, 2) := by decide +kernel
theorem d_Md_laysRowsSeen_10 : decode m_Md_laysRowsSeen.2.1 10 = .ok (.bipush 49, 2) := by decide +kernel
theorem d_Md_laysRowsSeen_12 : decode m_Md_laysRowsSeen.2.1 12 = .ok (.if_icmp .ge 17, 3) := by decide +kernel
theorem d_Md_laysRowsSeen_29 : decode m_Md_laysRowsSeen.2.1 29 = .ok (.iload_n 3, 1) := by decide +kernel
theorem d_Md_laysRowsSeen_30 : decode m_Md_laysRowsSeen.2.1 30 = .ok (.ifCond .ne 11, 3) := by decide +kernel
theorem d_Md_laysRowsSeen_41 : decode m_Md_laysRowsSeen.2.1 41 = .ok (.iconst 0, 1) := by decide +kernel
theorem d_Md_laysRowsSeen_42 : decode m_Md_laysRowsSeen.2.1 42 = .ok (.istore 4, 2) := by decide +kernel
theorem d_Md_laysRowsSeen_44 : decode m_Md_laysRowsSeen.2.1 44 = .ok (.aload_n 0, 1) := by decide +kernel
theorem d_Md_laysRowsSeen_45 : decode m_Md_laysRowsSeen.2.1 45 = .ok (.getfield 75, 3) := by decide +kernel
theorem f_Md_75 : aw_F "MaypoleGreenModel" 75 11 36 true := ⟨cR11, cT11, 52, fun k => cY11.getD k .int, rfl, ci11, cy11, cn11, rfl, by decide, aw_in 1291 (by decide +kernel) rfl, rfl, rfl, rfl⟩
theorem d_Md_laysRowsSeen_48 : decode m_Md_laysRowsSeen.2.1 48 = .ok (.iconst 0, 1) := by decide +kernel
theorem d_Md_laysRowsSeen_49 : decode m_Md_laysRowsSeen.2.1 49 = .ok (.iconst (-1), 1) := by decide +kernel
theorem d_Md_laysRowsSeen_50 : decode m_Md_laysRowsSeen.2.1 50 = .ok (.iastore, 1) := by decide +kernel
theorem d_Md_laysRowsSeen_51 : decode m_Md_laysRowsSeen.2.1 51 = .ok (.aload_n 0, 1) := by decide +kernel
theorem d_Md_laysRowsSeen_52 : decode m_Md_laysRowsSeen.2.1 52 = .ok (.iconst 0, 1) := by decide +kernel
theorem d_Md_laysRowsSeen_53 : decode m_Md_laysRowsSeen.2.1 53 = .ok (.invokestatic 448, 3) := by decide +kernel
abbrev m_Md_levelAt : aw_MI := (⟨"MaypoleGreenModel", "levelAt", "(I)I"⟩, prog_14_method_112_code, 1, some .int)
theorem lk_Md_448 : Cond.methodLink "MaypoleGreenModel" 448 m_Md_levelAt.1 ∈ aw_T := aw_in 1868 (by decide +kernel) rfl
theorem k_Md_levelAt : aw_K m_Md_levelAt 1 := ⟨aw_in 1870 (by decide +kernel) rfl, aw_in 16 (by decide +kernel) rfl, ⟨by decide, by decide, by decide +kernel⟩, by decide, by decide +kernel⟩
theorem st_Md_levelAt : Cond.static m_Md_levelAt.1 ∈ aw_T := aw_in 1869 (by decide +kernel) rfl
theorem d_Md_laysRowsSeen_56 : decode m_Md_laysRowsSeen.2.1 56 = .ok (.invokevirtual 451, 3) := by decide +kernel
abbrev m_Md_keeps : aw_MI := (⟨"MaypoleGreenModel", "keeps", "(I)V"⟩, prog_14_method_113_code, 3, none)
theorem lk_Md_451 : Cond.methodLink "MaypoleGreenModel" 451 m_Md_keeps.1 ∈ aw_T := aw_in 1871 (by decide +kernel) rfl
theorem k_Md_keeps : aw_K m_Md_keeps 1 := ⟨aw_in 1874 (by decide +kernel) rfl, aw_in 16 (by decide +kernel) rfl, ⟨by decide, by decide, by decide +kernel⟩, by decide, by decide +kernel⟩
theorem in_Md_keeps : Cond.instanceMethod m_Md_keeps.1 ∈ aw_T := aw_in 1873 (by decide +kernel) rfl
theorem se_Md_keeps : Cond.selects m_Md_keeps.1.cls m_Md_keeps.1 m_Md_keeps.1 ∈ aw_T := aw_inP 127 (by decide +kernel) rfl
theorem d_Md_laysRowsSeen_33 : decode m_Md_laysRowsSeen.2.1 33 = .ok (.aload_n 0, 1) := by decide +kernel
theorem d_Md_laysRowsSeen_34 : decode m_Md_laysRowsSeen.2.1 34 = .ok (.iload_n 1, 1) := by decide +kernel
theorem d_Md_laysRowsSeen_35 : decode m_Md_laysRowsSeen.2.1 35 = .ok (.iload_n 2, 1) := by decide +kernel
theorem d_Md_laysRowsSeen_36 : decode m_Md_laysRowsSeen.2.1 36 = .ok (.iconst 0, 1) := by decide +kernel
theorem d_Md_laysRowsSeen_37 : decode m_Md_laysRowsSeen.2.1 37 = .ok (.invokevirtual 445, 3) := by decide +kernel
abbrev m_Md_counts : aw_MI := (⟨"MaypoleGreenModel", "counts", "(III)V"⟩, prog_14_method_116_code, 6, none)
theorem lk_Md_445 : Cond.methodLink "MaypoleGreenModel" 445 m_Md_counts.1 ∈ aw_T := aw_in 1864 (by decide +kernel) rfl
theorem k_Md_counts : aw_K m_Md_counts 3 := ⟨aw_in 1867 (by decide +kernel) rfl, aw_in 16 (by decide +kernel) rfl, ⟨by decide, by decide, by decide +kernel⟩, by decide, by decide +kernel⟩
theorem in_Md_counts : Cond.instanceMethod m_Md_counts.1 ∈ aw_T := aw_in 1866 (by decide +kernel) rfl
theorem se_Md_counts : Cond.selects m_Md_counts.1.cls m_Md_counts.1 m_Md_counts.1 ∈ aw_T := aw_inP 126 (by decide +kernel) rfl
theorem d_Md_laysRowsSeen_40 : decode m_Md_laysRowsSeen.2.1 40 = .ok (.return_, 1) := by decide +kernel
theorem d_Md_laysRowsSeen_15 : decode m_Md_laysRowsSeen.2.1 15 = .ok (.aload_n 0, 1) := by decide +kernel
theorem d_Md_laysRowsSeen_16 : decode m_Md_laysRowsSeen.2.1 16 = .ok (.getfield 81, 3) := by decide +kernel
theorem f_Md_81 : aw_F "MaypoleGreenModel" 81 11 38 true := ⟨cR11, cT11, 52, fun k => cY11.getD k .int, rfl, ci11, cy11, cn11, rfl, by decide, aw_in 1293 (by decide +kernel) rfl, rfl, rfl, rfl⟩
theorem d_Md_laysRowsSeen_19 : decode m_Md_laysRowsSeen.2.1 19 = .ok (.iload 4, 2) := by decide +kernel
theorem d_Md_laysRowsSeen_21 : decode m_Md_laysRowsSeen.2.1 21 = .ok (.iconst 0, 1) := by decide +kernel
theorem d_Md_laysRowsSeen_22 : decode m_Md_laysRowsSeen.2.1 22 = .ok (.iastore, 1) := by decide +kernel
theorem d_Md_laysRowsSeen_23 : decode m_Md_laysRowsSeen.2.1 23 = .ok (.iinc 4 1, 3) := by decide +kernel
theorem d_Md_laysRowsSeen_26 : decode m_Md_laysRowsSeen.2.1 26 = .ok (.goto (-18), 3) := by decide +kernel
theorem d_Md_laysRowsSeen_59 : decode m_Md_laysRowsSeen.2.1 59 = .ok (.iload 4, 2) := by decide +kernel
theorem d_Md_laysRowsSeen_61 : decode m_Md_laysRowsSeen.2.1 61 = .ok (.ifCond .lt 110, 3) := by decide +kernel
theorem d_Md_laysRowsSeen_171 : decode m_Md_laysRowsSeen.2.1 171 = .ok (.aload_n 0, 1) := by decide +kernel
theorem d_Md_laysRowsSeen_172 : decode m_Md_laysRowsSeen.2.1 172 = .ok (.iconst 0, 1) := by decide +kernel
theorem d_Md_laysRowsSeen_173 : decode m_Md_laysRowsSeen.2.1 173 = .ok (.invokestatic 448, 3) := by decide +kernel
theorem d_Md_laysRowsSeen_176 : decode m_Md_laysRowsSeen.2.1 176 = .ok (.invokevirtual 454, 3) := by decide +kernel
abbrev m_Md_restores : aw_MI := (⟨"MaypoleGreenModel", "restores", "(I)V"⟩, prog_14_method_114_code, 3, none)
theorem lk_Md_454 : Cond.methodLink "MaypoleGreenModel" 454 m_Md_restores.1 ∈ aw_T := aw_in 1875 (by decide +kernel) rfl
theorem k_Md_restores : aw_K m_Md_restores 1 := ⟨aw_in 1878 (by decide +kernel) rfl, aw_in 16 (by decide +kernel) rfl, ⟨by decide, by decide, by decide +kernel⟩, by decide, by decide +kernel⟩
theorem in_Md_restores : Cond.instanceMethod m_Md_restores.1 ∈ aw_T := aw_in 1877 (by decide +kernel) rfl
theorem se_Md_restores : Cond.selects m_Md_restores.1.cls m_Md_restores.1 m_Md_restores.1 ∈ aw_T := aw_inP 128 (by decide +kernel) rfl
theorem d_Md_laysRowsSeen_179 : decode m_Md_laysRowsSeen.2.1 179 = .ok (.return_, 1) := by decide +kernel
theorem d_Md_laysRowsSeen_64 : decode m_Md_laysRowsSeen.2.1 64 = .ok (.aload_n 0, 1) := by decide +kernel
theorem d_Md_laysRowsSeen_65 : decode m_Md_laysRowsSeen.2.1 65 = .ok (.iload 4, 2) := by decide +kernel
theorem d_Md_laysRowsSeen_67 : decode m_Md_laysRowsSeen.2.1 67 = .ok (.invokestatic 448, 3) := by decide +kernel
theorem d_Md_laysRowsSeen_70 : decode m_Md_laysRowsSeen.2.1 70 = .ok (.invokevirtual 454, 3) := by decide +kernel
theorem d_Md_laysRowsSeen_73 : decode m_Md_laysRowsSeen.2.1 73 = .ok (.aload_n 0, 1) := by decide +kernel
theorem d_Md_laysRowsSeen_74 : decode m_Md_laysRowsSeen.2.1 74 = .ok (.getfield 75, 3) := by decide +kernel
theorem d_Md_laysRowsSeen_77 : decode m_Md_laysRowsSeen.2.1 77 = .ok (.iload 4, 2) := by decide +kernel
theorem d_Md_laysRowsSeen_79 : decode m_Md_laysRowsSeen.2.1 79 = .ok (.dup2, 1) := by decide +kernel
theorem d_Md_laysRowsSeen_80 : decode m_Md_laysRowsSeen.2.1 80 = .ok (.iaload, 1) := by decide +kernel
theorem d_Md_laysRowsSeen_81 : decode m_Md_laysRowsSeen.2.1 81 = .ok (.iconst 1, 1) := by decide +kernel
theorem d_Md_laysRowsSeen_82 : decode m_Md_laysRowsSeen.2.1 82 = .ok (.iadd, 1) := by decide +kernel
theorem d_Md_laysRowsSeen_83 : decode m_Md_laysRowsSeen.2.1 83 = .ok (.iastore, 1) := by decide +kernel
theorem d_Md_laysRowsSeen_84 : decode m_Md_laysRowsSeen.2.1 84 = .ok (.aload_n 0, 1) := by decide +kernel
theorem d_Md_laysRowsSeen_85 : decode m_Md_laysRowsSeen.2.1 85 = .ok (.getfield 75, 3) := by decide +kernel
theorem d_Md_laysRowsSeen_88 : decode m_Md_laysRowsSeen.2.1 88 = .ok (.iload 4, 2) := by decide +kernel
theorem d_Md_laysRowsSeen_90 : decode m_Md_laysRowsSeen.2.1 90 = .ok (.iaload, 1) := by decide +kernel
theorem d_Md_laysRowsSeen_91 : decode m_Md_laysRowsSeen.2.1 91 = .ok (.istore 5, 2) := by decide +kernel
theorem d_Md_laysRowsSeen_93 : decode m_Md_laysRowsSeen.2.1 93 = .ok (.iload 5, 2) := by decide +kernel
theorem d_Md_laysRowsSeen_95 : decode m_Md_laysRowsSeen.2.1 95 = .ok (.iconst 2, 1) := by decide +kernel
theorem d_Md_laysRowsSeen_96 : decode m_Md_laysRowsSeen.2.1 96 = .ok (.aload_n 0, 1) := by decide +kernel
theorem d_Md_laysRowsSeen_97 : decode m_Md_laysRowsSeen.2.1 97 = .ok (.iconst 0, 1) := by decide +kernel
theorem d_Md_laysRowsSeen_98 : decode m_Md_laysRowsSeen.2.1 98 = .ok (.invokevirtual 260, 3) := by decide +kernel
theorem d_Md_laysRowsSeen_101 : decode m_Md_laysRowsSeen.2.1 101 = .ok (.imul, 1) := by decide +kernel
theorem d_Md_laysRowsSeen_102 : decode m_Md_laysRowsSeen.2.1 102 = .ok (.if_icmp .ne 9, 3) := by decide +kernel
theorem d_Md_laysRowsSeen_111 : decode m_Md_laysRowsSeen.2.1 111 = .ok (.aload_n 0, 1) := by decide +kernel
theorem d_Md_laysRowsSeen_112 : decode m_Md_laysRowsSeen.2.1 112 = .ok (.iconst 0, 1) := by decide +kernel
theorem d_Md_laysRowsSeen_113 : decode m_Md_laysRowsSeen.2.1 113 = .ok (.iload 5, 2) := by decide +kernel
theorem d_Md_laysRowsSeen_115 : decode m_Md_laysRowsSeen.2.1 115 = .ok (.iconst 2, 1) := by decide +kernel
theorem d_Md_laysRowsSeen_116 : decode m_Md_laysRowsSeen.2.1 116 = .ok (.idiv, 1) := by decide +kernel
theorem d_Md_laysRowsSeen_117 : decode m_Md_laysRowsSeen.2.1 117 = .ok (.iload 5, 2) := by decide +kernel
theorem d_Md_laysRowsSeen_119 : decode m_Md_laysRowsSeen.2.1 119 = .ok (.iconst 2, 1) := by decide +kernel
theorem d_Md_laysRowsSeen_120 : decode m_Md_laysRowsSeen.2.1 120 = .ok (.irem, 1) := by decide +kernel
theorem d_Md_laysRowsSeen_121 : decode m_Md_laysRowsSeen.2.1 121 = .ok (.invokevirtual 269, 3) := by decide +kernel
theorem d_Md_laysRowsSeen_124 : decode m_Md_laysRowsSeen.2.1 124 = .ok (.ifCond .ne 6, 3) := by decide +kernel
theorem d_Md_laysRowsSeen_130 : decode m_Md_laysRowsSeen.2.1 130 = .ok (.iload 4, 2) := by decide +kernel
theorem d_Md_laysRowsSeen_132 : decode m_Md_laysRowsSeen.2.1 132 = .ok (.iconst 1, 1) := by decide +kernel
theorem d_Md_laysRowsSeen_133 : decode m_Md_laysRowsSeen.2.1 133 = .ok (.iadd, 1) := by decide +kernel
theorem d_Md_laysRowsSeen_134 : decode m_Md_laysRowsSeen.2.1 134 = .ok (.iload_n 3, 1) := by decide +kernel
theorem d_Md_laysRowsSeen_135 : decode m_Md_laysRowsSeen.2.1 135 = .ok (.if_icmp .ne 13, 3) := by decide +kernel
theorem d_Md_laysRowsSeen_148 : decode m_Md_laysRowsSeen.2.1 148 = .ok (.iinc 4 1, 3) := by decide +kernel
theorem d_Md_laysRowsSeen_151 : decode m_Md_laysRowsSeen.2.1 151 = .ok (.aload_n 0, 1) := by decide +kernel
theorem d_Md_laysRowsSeen_152 : decode m_Md_laysRowsSeen.2.1 152 = .ok (.getfield 75, 3) := by decide +kernel
theorem d_Md_laysRowsSeen_155 : decode m_Md_laysRowsSeen.2.1 155 = .ok (.iload 4, 2) := by decide +kernel
theorem d_Md_laysRowsSeen_157 : decode m_Md_laysRowsSeen.2.1 157 = .ok (.iconst (-1), 1) := by decide +kernel
theorem d_Md_laysRowsSeen_158 : decode m_Md_laysRowsSeen.2.1 158 = .ok (.iastore, 1) := by decide +kernel
theorem d_Md_laysRowsSeen_159 : decode m_Md_laysRowsSeen.2.1 159 = .ok (.aload_n 0, 1) := by decide +kernel
theorem d_Md_laysRowsSeen_160 : decode m_Md_laysRowsSeen.2.1 160 = .ok (.iload 4, 2) := by decide +kernel
theorem d_Md_laysRowsSeen_162 : decode m_Md_laysRowsSeen.2.1 162 = .ok (.invokestatic 448, 3) := by decide +kernel
theorem d_Md_laysRowsSeen_165 : decode m_Md_laysRowsSeen.2.1 165 = .ok (.invokevirtual 451, 3) := by decide +kernel
theorem d_Md_laysRowsSeen_168 : decode m_Md_laysRowsSeen.2.1 168 = .ok (.goto (-109), 3) := by decide +kernel
theorem d_Md_laysRowsSeen_138 : decode m_Md_laysRowsSeen.2.1 138 = .ok (.aload_n 0, 1) := by decide +kernel
theorem d_Md_laysRowsSeen_139 : decode m_Md_laysRowsSeen.2.1 139 = .ok (.iload_n 1, 1) := by decide +kernel
theorem d_Md_laysRowsSeen_140 : decode m_Md_laysRowsSeen.2.1 140 = .ok (.iload_n 2, 1) := by decide +kernel
theorem d_Md_laysRowsSeen_141 : decode m_Md_laysRowsSeen.2.1 141 = .ok (.iload_n 3, 1) := by decide +kernel
theorem d_Md_laysRowsSeen_142 : decode m_Md_laysRowsSeen.2.1 142 = .ok (.invokevirtual 445, 3) := by decide +kernel
theorem d_Md_laysRowsSeen_145 : decode m_Md_laysRowsSeen.2.1 145 = .ok (.goto 23, 3) := by decide +kernel
theorem d_Md_laysRowsSeen_127 : decode m_Md_laysRowsSeen.2.1 127 = .ok (.goto (-68), 3) := by decide +kernel
theorem d_Md_laysRowsSeen_105 : decode m_Md_laysRowsSeen.2.1 105 = .ok (.iinc 4 (-1), 3) := by decide +kernel
theorem d_Md_laysRowsSeen_108 : decode m_Md_laysRowsSeen.2.1 108 = .ok (.goto (-49), 3) := by decide +kernel
theorem d_Md_counts_0 : decode m_Md_counts.2.1 0 = .ok (.iconst 0, 1) := by decide +kernel
theorem d_Md_counts_1 : decode m_Md_counts.2.1 1 = .ok (.istore 4, 2) := by decide +kernel
theorem d_Md_counts_3 : decode m_Md_counts.2.1 3 = .ok (.iload 4, 2) := by decide +kernel
theorem d_Md_counts_5 : decode m_Md_counts.2.1 5 = .ok (.iload_n 2, 1) := by decide +kernel
theorem d_Md_counts_6 : decode m_Md_counts.2.1 6 = .ok (.if_icmp .ge 47, 3) := by decide +kernel
theorem d_Md_counts_53 : decode m_Md_counts.2.1 53 = .ok (.iconst 0, 1) := by decide +kernel
theorem d_Md_counts_54 : decode m_Md_counts.2.1 54 = .ok (.istore 4, 2) := by decide +kernel
theorem d_Md_counts_9 : decode m_Md_counts.2.1 9 = .ok (.bipush 60, 2) := by decide +kernel
theorem d_Md_counts_11 : decode m_Md_counts.2.1 11 = .ok (.iload_n 1, 1) := by decide +kernel
theorem d_Md_counts_12 : decode m_Md_counts.2.1 12 = .ok (.imul, 1) := by decide +kernel
theorem d_Md_counts_13 : decode m_Md_counts.2.1 13 = .ok (.iconst 2, 1) := by decide +kernel
theorem d_Md_counts_14 : decode m_Md_counts.2.1 14 = .ok (.iload 4, 2) := by decide +kernel
theorem d_Md_counts_16 : decode m_Md_counts.2.1 16 = .ok (.imul, 1) := by decide +kernel
theorem d_Md_counts_17 : decode m_Md_counts.2.1 17 = .ok (.iadd, 1) := by decide +kernel
theorem d_Md_counts_18 : decode m_Md_counts.2.1 18 = .ok (.istore 5, 2) := by decide +kernel
theorem d_Md_counts_20 : decode m_Md_counts.2.1 20 = .ok (.aload_n 0, 1) := by decide +kernel
theorem d_Md_counts_21 : decode m_Md_counts.2.1 21 = .ok (.aload_n 0, 1) := by decide +kernel
theorem d_Md_counts_22 : decode m_Md_counts.2.1 22 = .ok (.getfield 27, 3) := by decide +kernel
theorem d_Md_counts_25 : decode m_Md_counts.2.1 25 = .ok (.iload 5, 2) := by decide +kernel
theorem d_Md_counts_27 : decode m_Md_counts.2.1 27 = .ok (.laload, 1) := by decide +kernel
theorem d_Md_counts_28 : decode m_Md_counts.2.1 28 = .ok (.l2i, 1) := by decide +kernel
theorem d_Md_counts_29 : decode m_Md_counts.2.1 29 = .ok (.invokevirtual 319, 3) := by decide +kernel
theorem d_Md_counts_32 : decode m_Md_counts.2.1 32 = .ok (.i2l, 1) := by decide +kernel
theorem d_Md_counts_33 : decode m_Md_counts.2.1 33 = .ok (.aload_n 0, 1) := by decide +kernel
theorem d_Md_counts_34 : decode m_Md_counts.2.1 34 = .ok (.getfield 27, 3) := by decide +kernel
theorem d_Md_counts_37 : decode m_Md_counts.2.1 37 = .ok (.iload 5, 2) := by decide +kernel
theorem d_Md_counts_39 : decode m_Md_counts.2.1 39 = .ok (.iconst 1, 1) := by decide +kernel
theorem d_Md_counts_40 : decode m_Md_counts.2.1 40 = .ok (.iadd, 1) := by decide +kernel
theorem d_Md_counts_41 : decode m_Md_counts.2.1 41 = .ok (.laload, 1) := by decide +kernel
theorem d_Md_counts_42 : decode m_Md_counts.2.1 42 = .ok (.lcmp, 1) := by decide +kernel
theorem d_Md_counts_43 : decode m_Md_counts.2.1 43 = .ok (.ifCond .eq 4, 3) := by decide +kernel
theorem d_Md_counts_47 : decode m_Md_counts.2.1 47 = .ok (.iinc 4 1, 3) := by decide +kernel
theorem d_Md_counts_50 : decode m_Md_counts.2.1 50 = .ok (.goto (-47), 3) := by decide +kernel
theorem d_Md_counts_46 : decode m_Md_counts.2.1 46 = .ok (.return_, 1) := by decide +kernel
theorem d_Md_counts_56 : decode m_Md_counts.2.1 56 = .ok (.iload 4, 2) := by decide +kernel
theorem d_Md_counts_58 : decode m_Md_counts.2.1 58 = .ok (.iload_n 3, 1) := by decide +kernel
theorem d_Md_counts_59 : decode m_Md_counts.2.1 59 = .ok (.if_icmp .ge 30, 3) := by decide +kernel
theorem d_Md_counts_89 : decode m_Md_counts.2.1 89 = .ok (.iconst 0, 1) := by decide +kernel
theorem d_Md_counts_90 : decode m_Md_counts.2.1 90 = .ok (.istore 4, 2) := by decide +kernel
theorem d_Md_counts_62 : decode m_Md_counts.2.1 62 = .ok (.aload_n 0, 1) := by decide +kernel
theorem d_Md_counts_63 : decode m_Md_counts.2.1 63 = .ok (.getfield 442, 3) := by decide +kernel
theorem d_Md_counts_66 : decode m_Md_counts.2.1 66 = .ok (.ifCond .ne 23, 3) := by decide +kernel
theorem d_Md_counts_69 : decode m_Md_counts.2.1 69 = .ok (.aload_n 0, 1) := by decide +kernel
theorem d_Md_counts_70 : decode m_Md_counts.2.1 70 = .ok (.getfield 78, 3) := by decide +kernel
theorem f_Md_78 : aw_F "MaypoleGreenModel" 78 11 37 true := ⟨cR11, cT11, 52, fun k => cY11.getD k .int, rfl, ci11, cy11, cn11, rfl, by decide, aw_in 1292 (by decide +kernel) rfl, rfl, rfl, rfl⟩
theorem d_Md_counts_73 : decode m_Md_counts.2.1 73 = .ok (.iload 4, 2) := by decide +kernel
theorem d_Md_counts_75 : decode m_Md_counts.2.1 75 = .ok (.aload_n 0, 1) := by decide +kernel
theorem d_Md_counts_76 : decode m_Md_counts.2.1 76 = .ok (.getfield 75, 3) := by decide +kernel
theorem d_Md_counts_79 : decode m_Md_counts.2.1 79 = .ok (.iload 4, 2) := by decide +kernel
theorem d_Md_counts_81 : decode m_Md_counts.2.1 81 = .ok (.iaload, 1) := by decide +kernel
theorem d_Md_counts_82 : decode m_Md_counts.2.1 82 = .ok (.iastore, 1) := by decide +kernel
theorem d_Md_counts_83 : decode m_Md_counts.2.1 83 = .ok (.iinc 4 1, 3) := by decide +kernel
theorem d_Md_counts_86 : decode m_Md_counts.2.1 86 = .ok (.goto (-30), 3) := by decide +kernel
theorem d_Md_counts_92 : decode m_Md_counts.2.1 92 = .ok (.iload 4, 2) := by decide +kernel
theorem d_Md_counts_94 : decode m_Md_counts.2.1 94 = .ok (.aload_n 0, 1) := by decide +kernel
theorem d_Md_counts_95 : decode m_Md_counts.2.1 95 = .ok (.iconst 0, 1) := by decide +kernel
theorem d_Md_counts_96 : decode m_Md_counts.2.1 96 = .ok (.invokevirtual 260, 3) := by decide +kernel
theorem d_Md_counts_99 : decode m_Md_counts.2.1 99 = .ok (.if_icmp .ge 30, 3) := by decide +kernel
theorem d_Md_counts_129 : decode m_Md_counts.2.1 129 = .ok (.aload_n 0, 1) := by decide +kernel
theorem d_Md_counts_130 : decode m_Md_counts.2.1 130 = .ok (.dup, 1) := by decide +kernel
theorem d_Md_counts_131 : decode m_Md_counts.2.1 131 = .ok (.getfield 442, 3) := by decide +kernel
theorem d_Md_counts_134 : decode m_Md_counts.2.1 134 = .ok (.iconst 1, 1) := by decide +kernel
theorem d_Md_counts_135 : decode m_Md_counts.2.1 135 = .ok (.iadd, 1) := by decide +kernel
theorem d_Md_counts_136 : decode m_Md_counts.2.1 136 = .ok (.putfield 442, 3) := by decide +kernel
theorem d_Md_counts_139 : decode m_Md_counts.2.1 139 = .ok (.return_, 1) := by decide +kernel
theorem d_Md_counts_102 : decode m_Md_counts.2.1 102 = .ok (.aload_n 0, 1) := by decide +kernel
theorem d_Md_counts_103 : decode m_Md_counts.2.1 103 = .ok (.getfield 81, 3) := by decide +kernel
theorem d_Md_counts_106 : decode m_Md_counts.2.1 106 = .ok (.bipush 7, 2) := by decide +kernel
theorem d_Md_counts_108 : decode m_Md_counts.2.1 108 = .ok (.iload 4, 2) := by decide +kernel
theorem d_Md_counts_110 : decode m_Md_counts.2.1 110 = .ok (.imul, 1) := by decide +kernel
theorem d_Md_counts_111 : decode m_Md_counts.2.1 111 = .ok (.aload_n 0, 1) := by decide +kernel
theorem d_Md_counts_112 : decode m_Md_counts.2.1 112 = .ok (.iload 4, 2) := by decide +kernel
theorem d_Md_counts_114 : decode m_Md_counts.2.1 114 = .ok (.invokevirtual 319, 3) := by decide +kernel
theorem d_Md_counts_117 : decode m_Md_counts.2.1 117 = .ok (.iadd, 1) := by decide +kernel
theorem d_Md_counts_118 : decode m_Md_counts.2.1 118 = .ok (.dup2, 1) := by decide +kernel
theorem d_Md_counts_119 : decode m_Md_counts.2.1 119 = .ok (.iaload, 1) := by decide +kernel
theorem d_Md_counts_120 : decode m_Md_counts.2.1 120 = .ok (.iconst 1, 1) := by decide +kernel
theorem d_Md_counts_121 : decode m_Md_counts.2.1 121 = .ok (.iadd, 1) := by decide +kernel
theorem d_Md_counts_122 : decode m_Md_counts.2.1 122 = .ok (.iastore, 1) := by decide +kernel
theorem d_Md_counts_123 : decode m_Md_counts.2.1 123 = .ok (.iinc 4 1, 3) := by decide +kernel
theorem d_Md_counts_126 : decode m_Md_counts.2.1 126 = .ok (.goto (-34), 3) := by decide +kernel
theorem d_Md_levelAt_0 : decode m_Md_levelAt.2.1 0 = .ok (.sipush 2944, 3) := by decide +kernel
theorem d_Md_levelAt_3 : decode m_Md_levelAt.2.1 3 = .ok (.sipush 184, 3) := by decide +kernel
theorem d_Md_levelAt_6 : decode m_Md_levelAt.2.1 6 = .ok (.iload_n 0, 1) := by decide +kernel
theorem d_Md_levelAt_7 : decode m_Md_levelAt.2.1 7 = .ok (.imul, 1) := by decide +kernel
theorem d_Md_levelAt_8 : decode m_Md_levelAt.2.1 8 = .ok (.iadd, 1) := by decide +kernel
theorem d_Md_levelAt_9 : decode m_Md_levelAt.2.1 9 = .ok (.ireturn, 1) := by decide +kernel
theorem d_Md_keeps_0 : decode m_Md_keeps.2.1 0 = .ok (.iconst 0, 1) := by decide +kernel
theorem d_Md_keeps_1 : decode m_Md_keeps.2.1 1 = .ok (.istore_n 2, 1) := by decide +kernel
theorem d_Md_keeps_2 : decode m_Md_keeps.2.1 2 = .ok (.iload_n 2, 1) := by decide +kernel
theorem d_Md_keeps_3 : decode m_Md_keeps.2.1 3 = .ok (.sipush 184, 3) := by decide +kernel
theorem d_Md_keeps_6 : decode m_Md_keeps.2.1 6 = .ok (.if_icmp .ge 23, 3) := by decide +kernel
theorem d_Md_keeps_29 : decode m_Md_keeps.2.1 29 = .ok (.return_, 1) := by decide +kernel
theorem d_Md_keeps_9 : decode m_Md_keeps.2.1 9 = .ok (.aload_n 0, 1) := by decide +kernel
theorem d_Md_keeps_10 : decode m_Md_keeps.2.1 10 = .ok (.getfield 7, 3) := by decide +kernel
theorem d_Md_keeps_13 : decode m_Md_keeps.2.1 13 = .ok (.iload_n 1, 1) := by decide +kernel
theorem d_Md_keeps_14 : decode m_Md_keeps.2.1 14 = .ok (.iload_n 2, 1) := by decide +kernel
theorem d_Md_keeps_15 : decode m_Md_keeps.2.1 15 = .ok (.iadd, 1) := by decide +kernel
theorem d_Md_keeps_16 : decode m_Md_keeps.2.1 16 = .ok (.aload_n 0, 1) := by decide +kernel
theorem d_Md_keeps_17 : decode m_Md_keeps.2.1 17 = .ok (.getfield 7, 3) := by decide +kernel
theorem d_Md_keeps_20 : decode m_Md_keeps.2.1 20 = .ok (.iload_n 2, 1) := by decide +kernel
theorem d_Md_keeps_21 : decode m_Md_keeps.2.1 21 = .ok (.iaload, 1) := by decide +kernel
theorem d_Md_keeps_22 : decode m_Md_keeps.2.1 22 = .ok (.iastore, 1) := by decide +kernel
theorem d_Md_keeps_23 : decode m_Md_keeps.2.1 23 = .ok (.iinc 2 1, 3) := by decide +kernel
theorem d_Md_keeps_26 : decode m_Md_keeps.2.1 26 = .ok (.goto (-24), 3) := by decide +kernel
theorem d_Md_restores_0 : decode m_Md_restores.2.1 0 = .ok (.iconst 0, 1) := by decide +kernel
theorem d_Md_restores_1 : decode m_Md_restores.2.1 1 = .ok (.istore_n 2, 1) := by decide +kernel
theorem d_Md_restores_2 : decode m_Md_restores.2.1 2 = .ok (.iload_n 2, 1) := by decide +kernel
theorem d_Md_restores_3 : decode m_Md_restores.2.1 3 = .ok (.sipush 184, 3) := by decide +kernel
theorem d_Md_restores_6 : decode m_Md_restores.2.1 6 = .ok (.if_icmp .ge 23, 3) := by decide +kernel
theorem d_Md_restores_29 : decode m_Md_restores.2.1 29 = .ok (.return_, 1) := by decide +kernel
theorem d_Md_restores_9 : decode m_Md_restores.2.1 9 = .ok (.aload_n 0, 1) := by decide +kernel
theorem d_Md_restores_10 : decode m_Md_restores.2.1 10 = .ok (.getfield 7, 3) := by decide +kernel
theorem d_Md_restores_13 : decode m_Md_restores.2.1 13 = .ok (.iload_n 2, 1) := by decide +kernel
theorem d_Md_restores_14 : decode m_Md_restores.2.1 14 = .ok (.aload_n 0, 1) := by decide +kernel
theorem d_Md_restores_15 : decode m_Md_restores.2.1 15 = .ok (.getfield 7, 3) := by decide +kernel
theorem d_Md_restores_18 : decode m_Md_restores.2.1 18 = .ok (.iload_n 1, 1) := by decide +kernel
theorem d_Md_restores_19 : decode m_Md_restores.2.1 19 = .ok (.iload_n 2, 1) := by decide +kernel
theorem d_Md_restores_20 : decode m_Md_restores.2.1 20 = .ok (.iadd, 1) := by decide +kernel
theorem d_Md_restores_21 : decode m_Md_restores.2.1 21 = .ok (.iaload, 1) := by decide +kernel
theorem d_Md_restores_22 : decode m_Md_restores.2.1 22 = .ok (.iastore, 1) := by decide +kernel
theorem d_Md_restores_23 : decode m_Md_restores.2.1 23 = .ok (.iinc 2 1, 3) := by decide +kernel
theorem d_Md_restores_26 : decode m_Md_restores.2.1 26 = .ok (.goto (-24), 3) := by decide +kernel
abbrev m_Md_fitsAt : aw_MI := (⟨"MaypoleGreenModel", "fitsAt", "(IIII)I"⟩, prog_14_method_119_code, 6, some .int)
theorem k_Md_fitsAt : aw_K m_Md_fitsAt 4 := ⟨aw_in 1882 (by decide +kernel) rfl, aw_in 16 (by decide +kernel) rfl, ⟨by decide, by decide, by decide +kernel⟩, by decide, by decide +kernel⟩
theorem d_Md_fitsAt_0 : decode m_Md_fitsAt.2.1 0 = .ok (.iload 4, 2) := by decide +kernel
theorem d_Md_fitsAt_2 : decode m_Md_fitsAt.2.1 2 = .ok (.ifCond .ge 7, 3) := by decide +kernel
theorem d_Md_fitsAt_9 : decode m_Md_fitsAt.2.1 9 = .ok (.aload_n 0, 1) := by decide +kernel
theorem d_Md_fitsAt_10 : decode m_Md_fitsAt.2.1 10 = .ok (.iload_n 1, 1) := by decide +kernel
theorem d_Md_fitsAt_11 : decode m_Md_fitsAt.2.1 11 = .ok (.iload_n 2, 1) := by decide +kernel
theorem d_Md_fitsAt_12 : decode m_Md_fitsAt.2.1 12 = .ok (.iload_n 3, 1) := by decide +kernel
theorem d_Md_fitsAt_13 : decode m_Md_fitsAt.2.1 13 = .ok (.invokevirtual 457, 3) := by decide +kernel
theorem d_Md_fitsAt_16 : decode m_Md_fitsAt.2.1 16 = .ok (.istore 5, 2) := by decide +kernel
theorem d_Md_fitsAt_18 : decode m_Md_fitsAt.2.1 18 = .ok (.iload 5, 2) := by decide +kernel
theorem d_Md_fitsAt_20 : decode m_Md_fitsAt.2.1 20 = .ok (.ifCond .le 10, 3) := by decide +kernel
theorem d_Md_fitsAt_30 : decode m_Md_fitsAt.2.1 30 = .ok (.aload_n 0, 1) := by decide +kernel
theorem d_Md_fitsAt_31 : decode m_Md_fitsAt.2.1 31 = .ok (.iload_n 1, 1) := by decide +kernel
theorem d_Md_fitsAt_32 : decode m_Md_fitsAt.2.1 32 = .ok (.iload_n 2, 1) := by decide +kernel
theorem d_Md_fitsAt_33 : decode m_Md_fitsAt.2.1 33 = .ok (.iload_n 3, 1) := by decide +kernel
theorem d_Md_fitsAt_34 : decode m_Md_fitsAt.2.1 34 = .ok (.invokevirtual 460, 3) := by decide +kernel
theorem d_Md_fitsAt_37 : decode m_Md_fitsAt.2.1 37 = .ok (.aload_n 0, 1) := by decide +kernel
theorem d_Md_fitsAt_38 : decode m_Md_fitsAt.2.1 38 = .ok (.getfield 442, 3) := by decide +kernel
theorem d_Md_fitsAt_41 : decode m_Md_fitsAt.2.1 41 = .ok (.ifCond .eq 9, 3) := by decide +kernel
theorem d_Md_fitsAt_50 : decode m_Md_fitsAt.2.1 50 = .ok (.aload_n 0, 1) := by decide +kernel
theorem d_Md_fitsAt_51 : decode m_Md_fitsAt.2.1 51 = .ok (.bipush 6, 2) := by decide +kernel
theorem d_Md_fitsAt_53 : decode m_Md_fitsAt.2.1 53 = .ok (.invokevirtual 118, 3) := by decide +kernel
theorem d_Md_fitsAt_56 : decode m_Md_fitsAt.2.1 56 = .ok (.goto 14, 3) := by decide +kernel
theorem d_Md_fitsAt_70 : decode m_Md_fitsAt.2.1 70 = .ok (.ireturn, 1) := by decide +kernel
theorem d_Md_fitsAt_44 : decode m_Md_fitsAt.2.1 44 = .ok (.iload 4, 2) := by decide +kernel
theorem d_Md_fitsAt_46 : decode m_Md_fitsAt.2.1 46 = .ok (.iload_n 3, 1) := by decide +kernel
theorem d_Md_fitsAt_47 : decode m_Md_fitsAt.2.1 47 = .ok (.if_icmp .lt 12, 3) := by decide +kernel
theorem d_Md_fitsAt_59 : decode m_Md_fitsAt.2.1 59 = .ok (.aload_n 0, 1) := by decide +kernel
theorem d_Md_fitsAt_60 : decode m_Md_fitsAt.2.1 60 = .ok (.aload_n 0, 1) := by decide +kernel
theorem d_Md_fitsAt_61 : decode m_Md_fitsAt.2.1 61 = .ok (.getfield 78, 3) := by decide +kernel
theorem d_Md_fitsAt_64 : decode m_Md_fitsAt.2.1 64 = .ok (.iload 4, 2) := by decide +kernel
theorem d_Md_fitsAt_66 : decode m_Md_fitsAt.2.1 66 = .ok (.iaload, 1) := by decide +kernel
theorem d_Md_fitsAt_67 : decode m_Md_fitsAt.2.1 67 = .ok (.invokevirtual 122, 3) := by decide +kernel
theorem d_Md_fitsAt_23 : decode m_Md_fitsAt.2.1 23 = .ok (.aload_n 0, 1) := by decide +kernel
theorem d_Md_fitsAt_24 : decode m_Md_fitsAt.2.1 24 = .ok (.iload 5, 2) := by decide +kernel
theorem d_Md_fitsAt_26 : decode m_Md_fitsAt.2.1 26 = .ok (.invokevirtual 118, 3) := by decide +kernel
theorem d_Md_fitsAt_29 : decode m_Md_fitsAt.2.1 29 = .ok (.ireturn, 1) := by decide +kernel
theorem d_Md_fitsAt_5 : decode m_Md_fitsAt.2.1 5 = .ok (.iconst 1, 1) := by decide +kernel
theorem d_Md_fitsAt_6 : decode m_Md_fitsAt.2.1 6 = .ok (.goto 10, 3) := by decide +kernel
abbrev m_Md_ask : aw_MI := (⟨"MaypoleGreenModel", "ask", "(III)I"⟩, prog_14_method_121_code, 8, some .int)
theorem k_Md_ask : aw_K m_Md_ask 3 := ⟨aw_in 1886 (by decide +kernel) rfl, aw_in 16 (by decide +kernel) rfl, ⟨by decide, by decide, by decide +kernel⟩, by decide, by decide +kernel⟩
theorem d_Md_ask_0 : decode m_Md_ask.2.1 0 = .ok (.aload_n 0, 1) := by decide +kernel
theorem d_Md_ask_1 : decode m_Md_ask.2.1 1 = .ok (.iload_n 1, 1) := by decide +kernel
theorem d_Md_ask_2 : decode m_Md_ask.2.1 2 = .ok (.iload_n 2, 1) := by decide +kernel
theorem d_Md_ask_3 : decode m_Md_ask.2.1 3 = .ok (.iload_n 3, 1) := by decide +kernel
theorem d_Md_ask_4 : decode m_Md_ask.2.1 4 = .ok (.invokevirtual 457, 3) := by decide +kernel
theorem d_Md_ask_7 : decode m_Md_ask.2.1 7 = .ok (.istore 4, 2) := by decide +kernel
theorem d_Md_ask_9 : decode m_Md_ask.2.1 9 = .ok (.iload 4, 2) := by decide +kernel
theorem d_Md_ask_11 : decode m_Md_ask.2.1 11 = .ok (.ifCond .le 10, 3) := by decide +kernel
theorem d_Md_ask_21 : decode m_Md_ask.2.1 21 = .ok (.aload_n 0, 1) := by decide +kernel
theorem d_Md_ask_22 : decode m_Md_ask.2.1 22 = .ok (.iload_n 1, 1) := by decide +kernel
theorem d_Md_ask_23 : decode m_Md_ask.2.1 23 = .ok (.iload_n 2, 1) := by decide +kernel
theorem d_Md_ask_24 : decode m_Md_ask.2.1 24 = .ok (.iload_n 3, 1) := by decide +kernel
theorem d_Md_ask_25 : decode m_Md_ask.2.1 25 = .ok (.invokevirtual 460, 3) := by decide +kernel
theorem d_Md_ask_28 : decode m_Md_ask.2.1 28 = .ok (.iconst (-1), 1) := by decide +kernel
theorem d_Md_ask_29 : decode m_Md_ask.2.1 29 = .ok (.istore 5, 2) := by decide +kernel
theorem d_Md_ask_31 : decode m_Md_ask.2.1 31 = .ok (.aload_n 0, 1) := by decide +kernel
theorem d_Md_ask_32 : decode m_Md_ask.2.1 32 = .ok (.getfield 442, 3) := by decide +kernel
theorem d_Md_ask_35 : decode m_Md_ask.2.1 35 = .ok (.istore 6, 2) := by decide +kernel
theorem d_Md_ask_37 : decode m_Md_ask.2.1 37 = .ok (.iconst 0, 1) := by decide +kernel
theorem d_Md_ask_38 : decode m_Md_ask.2.1 38 = .ok (.istore 7, 2) := by decide +kernel
theorem d_Md_ask_14 : decode m_Md_ask.2.1 14 = .ok (.aload_n 0, 1) := by decide +kernel
theorem d_Md_ask_15 : decode m_Md_ask.2.1 15 = .ok (.iload 4, 2) := by decide +kernel
theorem d_Md_ask_17 : decode m_Md_ask.2.1 17 = .ok (.invokevirtual 118, 3) := by decide +kernel
theorem d_Md_ask_20 : decode m_Md_ask.2.1 20 = .ok (.ireturn, 1) := by decide +kernel
theorem d_Md_ask_40 : decode m_Md_ask.2.1 40 = .ok (.iload 7, 2) := by decide +kernel
theorem d_Md_ask_42 : decode m_Md_ask.2.1 42 = .ok (.aload_n 0, 1) := by decide +kernel
theorem d_Md_ask_43 : decode m_Md_ask.2.1 43 = .ok (.iconst 0, 1) := by decide +kernel
theorem d_Md_ask_44 : decode m_Md_ask.2.1 44 = .ok (.invokevirtual 260, 3) := by decide +kernel
theorem d_Md_ask_47 : decode m_Md_ask.2.1 47 = .ok (.if_icmp .ge 35, 3) := by decide +kernel
theorem d_Md_ask_82 : decode m_Md_ask.2.1 82 = .ok (.aload_n 0, 1) := by decide +kernel
theorem d_Md_ask_83 : decode m_Md_ask.2.1 83 = .ok (.iload 5, 2) := by decide +kernel
theorem d_Md_ask_85 : decode m_Md_ask.2.1 85 = .ok (.invokevirtual 433, 3) := by decide +kernel
theorem d_Md_ask_88 : decode m_Md_ask.2.1 88 = .ok (.ireturn, 1) := by decide +kernel
theorem d_Md_ask_50 : decode m_Md_ask.2.1 50 = .ok (.aload_n 0, 1) := by decide +kernel
theorem d_Md_ask_51 : decode m_Md_ask.2.1 51 = .ok (.iload 7, 2) := by decide +kernel
theorem d_Md_ask_53 : decode m_Md_ask.2.1 53 = .ok (.invokevirtual 463, 3) := by decide +kernel
abbrev m_Md_mostAlike : aw_MI := (⟨"MaypoleGreenModel", "mostAlike", "(I)I"⟩, prog_14_method_120_code, 4, some .int)
theorem lk_Md_463 : Cond.methodLink "MaypoleGreenModel" 463 m_Md_mostAlike.1 ∈ aw_T := aw_in 1887 (by decide +kernel) rfl
theorem k_Md_mostAlike : aw_K m_Md_mostAlike 1 := ⟨aw_in 1890 (by decide +kernel) rfl, aw_in 16 (by decide +kernel) rfl, ⟨by decide, by decide, by decide +kernel⟩, by decide, by decide +kernel⟩
theorem in_Md_mostAlike : Cond.instanceMethod m_Md_mostAlike.1 ∈ aw_T := aw_in 1889 (by decide +kernel) rfl
theorem se_Md_mostAlike : Cond.selects m_Md_mostAlike.1.cls m_Md_mostAlike.1 m_Md_mostAlike.1 ∈ aw_T := aw_inP 129 (by decide +kernel) rfl
theorem d_Md_ask_56 : decode m_Md_ask.2.1 56 = .ok (.iload 6, 2) := by decide +kernel
theorem d_Md_ask_58 : decode m_Md_ask.2.1 58 = .ok (.if_icmp .lt 6, 3) := by decide +kernel
theorem d_Md_ask_64 : decode m_Md_ask.2.1 64 = .ok (.aload_n 0, 1) := by decide +kernel
theorem d_Md_ask_65 : decode m_Md_ask.2.1 65 = .ok (.iload 7, 2) := by decide +kernel
theorem d_Md_ask_67 : decode m_Md_ask.2.1 67 = .ok (.invokevirtual 463, 3) := by decide +kernel
theorem d_Md_ask_70 : decode m_Md_ask.2.1 70 = .ok (.istore 6, 2) := by decide +kernel
theorem d_Md_ask_72 : decode m_Md_ask.2.1 72 = .ok (.iload 7, 2) := by decide +kernel
theorem d_Md_ask_74 : decode m_Md_ask.2.1 74 = .ok (.istore 5, 2) := by decide +kernel
theorem d_Md_ask_76 : decode m_Md_ask.2.1 76 = .ok (.iinc 7 1, 3) := by decide +kernel
theorem d_Md_ask_79 : decode m_Md_ask.2.1 79 = .ok (.goto (-39), 3) := by decide +kernel
theorem d_Md_ask_61 : decode m_Md_ask.2.1 61 = .ok (.goto 15, 3) := by decide +kernel
theorem d_Md_mostAlike_0 : decode m_Md_mostAlike.2.1 0 = .ok (.iconst 0, 1) := by decide +kernel
theorem d_Md_mostAlike_1 : decode m_Md_mostAlike.2.1 1 = .ok (.istore_n 2, 1) := by decide +kernel
theorem d_Md_mostAlike_2 : decode m_Md_mostAlike.2.1 2 = .ok (.iconst 0, 1) := by decide +kernel
theorem d_Md_mostAlike_3 : decode m_Md_mostAlike.2.1 3 = .ok (.istore_n 3, 1) := by decide +kernel
theorem d_Md_mostAlike_4 : decode m_Md_mostAlike.2.1 4 = .ok (.iload_n 3, 1) := by decide +kernel
theorem d_Md_mostAlike_5 : decode m_Md_mostAlike.2.1 5 = .ok (.bipush 7, 2) := by decide +kernel
theorem d_Md_mostAlike_7 : decode m_Md_mostAlike.2.1 7 = .ok (.if_icmp .ge 25, 3) := by decide +kernel
theorem d_Md_mostAlike_32 : decode m_Md_mostAlike.2.1 32 = .ok (.iload_n 2, 1) := by decide +kernel
theorem d_Md_mostAlike_33 : decode m_Md_mostAlike.2.1 33 = .ok (.ireturn, 1) := by decide +kernel
theorem d_Md_mostAlike_10 : decode m_Md_mostAlike.2.1 10 = .ok (.iload_n 2, 1) := by decide +kernel
theorem d_Md_mostAlike_11 : decode m_Md_mostAlike.2.1 11 = .ok (.aload_n 0, 1) := by decide +kernel
theorem d_Md_mostAlike_12 : decode m_Md_mostAlike.2.1 12 = .ok (.getfield 81, 3) := by decide +kernel
theorem d_Md_mostAlike_15 : decode m_Md_mostAlike.2.1 15 = .ok (.bipush 7, 2) := by decide +kernel
theorem d_Md_mostAlike_17 : decode m_Md_mostAlike.2.1 17 = .ok (.iload_n 1, 1) := by decide +kernel
theorem d_Md_mostAlike_18 : decode m_Md_mostAlike.2.1 18 = .ok (.imul, 1) := by decide +kernel
theorem d_Md_mostAlike_19 : decode m_Md_mostAlike.2.1 19 = .ok (.iload_n 3, 1) := by decide +kernel
theorem d_Md_mostAlike_20 : decode m_Md_mostAlike.2.1 20 = .ok (.iadd, 1) := by decide +kernel
theorem d_Md_mostAlike_21 : decode m_Md_mostAlike.2.1 21 = .ok (.iaload, 1) := by decide +kernel
theorem d_Md_mostAlike_22 : decode m_Md_mostAlike.2.1 22 = .ok (.invokestatic 214, 3) := by decide +kernel
theorem d_Md_mostAlike_25 : decode m_Md_mostAlike.2.1 25 = .ok (.istore_n 2, 1) := by decide +kernel
theorem d_Md_mostAlike_26 : decode m_Md_mostAlike.2.1 26 = .ok (.iinc 3 1, 3) := by decide +kernel
theorem d_Md_mostAlike_29 : decode m_Md_mostAlike.2.1 29 = .ok (.goto (-25), 3) := by decide +kernel
abbrev m_Md_game : aw_MI := (⟨"MaypoleGreenModel", "game", "(I)I"⟩, prog_14_method_125_code, 2, some .int)
theorem k_Md_game : aw_K m_Md_game 1 := ⟨aw_in 1894 (by decide +kernel) rfl, aw_in 16 (by decide +kernel) rfl, ⟨by decide, by decide, by decide +kernel⟩, by decide, by decide +kernel⟩
theorem d_Md_game_0 : decode m_Md_game.2.1 0 = .ok (.iload_n 1, 1) := by decide +kernel
theorem d_Md_game_1 : decode m_Md_game.2.1 1 = .ok (.i2l, 1) := by decide +kernel
theorem d_Md_game_2 : decode m_Md_game.2.1 2 = .ok (.lconst 0, 1) := by decide +kernel
theorem d_Md_game_3 : decode m_Md_game.2.1 3 = .ok (.ldc2_w 472, 3) := by decide +kernel
theorem cl_Md_472 : Cond.constantLong "MaypoleGreenModel" 472 (3) ∈ aw_T := aw_in 1895 (by decide +kernel) rfl
theorem d_Md_game_6 : decode m_Md_game.2.1 6 = .ok (.invokestatic 372, 3) := by decide +kernel
theorem d_Md_game_9 : decode m_Md_game.2.1 9 = .ok (.ifCond .eq 15, 3) := by decide +kernel
theorem d_Md_game_24 : decode m_Md_game.2.1 24 = .ok (.aload_n 0, 1) := by decide +kernel
theorem d_Md_game_25 : decode m_Md_game.2.1 25 = .ok (.iconst 1, 1) := by decide +kernel
theorem d_Md_game_26 : decode m_Md_game.2.1 26 = .ok (.invokevirtual 118, 3) := by decide +kernel
theorem d_Md_game_29 : decode m_Md_game.2.1 29 = .ok (.ireturn, 1) := by decide +kernel
theorem d_Md_game_12 : decode m_Md_game.2.1 12 = .ok (.aload_n 0, 1) := by decide +kernel
theorem d_Md_game_13 : decode m_Md_game.2.1 13 = .ok (.aload_n 0, 1) := by decide +kernel
theorem d_Md_game_14 : decode m_Md_game.2.1 14 = .ok (.iload_n 1, 1) := by decide +kernel
theorem d_Md_game_15 : decode m_Md_game.2.1 15 = .ok (.invokevirtual 474, 3) := by decide +kernel
abbrev m_Md_playing : aw_MI := (⟨"MaypoleGreenModel", "playing", "(I)I"⟩, prog_14_method_124_code, 4, some .int)
theorem lk_Md_474 : Cond.methodLink "MaypoleGreenModel" 474 m_Md_playing.1 ∈ aw_T := aw_in 1896 (by decide +kernel) rfl
theorem k_Md_playing : aw_K m_Md_playing 1 := ⟨aw_in 1899 (by decide +kernel) rfl, aw_in 16 (by decide +kernel) rfl, ⟨by decide, by decide, by decide +kernel⟩, by decide, by decide +kernel⟩
theorem in_Md_playing : Cond.instanceMethod m_Md_playing.1 ∈ aw_T := aw_in 1898 (by decide +kernel) rfl
theorem se_Md_playing : Cond.selects m_Md_playing.1.cls m_Md_playing.1 m_Md_playing.1 ∈ aw_T := aw_inP 130 (by decide +kernel) rfl
theorem d_Md_game_18 : decode m_Md_game.2.1 18 = .ok (.invokevirtual 122, 3) := by decide +kernel
theorem d_Md_game_21 : decode m_Md_game.2.1 21 = .ok (.goto 8, 3) := by decide +kernel
theorem d_Md_playing_0 : decode m_Md_playing.2.1 0 = .ok (.iload_n 1, 1) := by decide +kernel
theorem d_Md_playing_1 : decode m_Md_playing.2.1 1 = .ok (.ifCond .ne 8, 3) := by decide +kernel
theorem d_Md_playing_9 : decode m_Md_playing.2.1 9 = .ok (.iconst 0, 1) := by decide +kernel
theorem d_Md_playing_10 : decode m_Md_playing.2.1 10 = .ok (.istore_n 2, 1) := by decide +kernel
theorem d_Md_playing_11 : decode m_Md_playing.2.1 11 = .ok (.aload_n 0, 1) := by decide +kernel
theorem d_Md_playing_12 : decode m_Md_playing.2.1 12 = .ok (.iconst 0, 1) := by decide +kernel
theorem d_Md_playing_13 : decode m_Md_playing.2.1 13 = .ok (.invokevirtual 466, 3) := by decide +kernel
abbrev m_Md_beginsAt : aw_MI := (⟨"MaypoleGreenModel", "beginsAt", "(I)V"⟩, prog_14_method_123_code, 2, none)
theorem lk_Md_466 : Cond.methodLink "MaypoleGreenModel" 466 m_Md_beginsAt.1 ∈ aw_T := aw_in 1900 (by decide +kernel) rfl
theorem k_Md_beginsAt : aw_K m_Md_beginsAt 1 := ⟨aw_in 1903 (by decide +kernel) rfl, aw_in 16 (by decide +kernel) rfl, ⟨by decide, by decide, by decide +kernel⟩, by decide, by decide +kernel⟩
theorem in_Md_beginsAt : Cond.instanceMethod m_Md_beginsAt.1 ∈ aw_T := aw_in 1902 (by decide +kernel) rfl
theorem se_Md_beginsAt : Cond.selects m_Md_beginsAt.1.cls m_Md_beginsAt.1 m_Md_beginsAt.1 ∈ aw_T := aw_inP 131 (by decide +kernel) rfl
theorem d_Md_playing_4 : decode m_Md_playing.2.1 4 = .ok (.aload_n 0, 1) := by decide +kernel
theorem d_Md_playing_5 : decode m_Md_playing.2.1 5 = .ok (.invokevirtual 334, 3) := by decide +kernel
theorem d_Md_playing_8 : decode m_Md_playing.2.1 8 = .ok (.ireturn, 1) := by decide +kernel
theorem d_Md_playing_16 : decode m_Md_playing.2.1 16 = .ok (.aload_n 0, 1) := by decide +kernel
theorem d_Md_playing_17 : decode m_Md_playing.2.1 17 = .ok (.iload_n 2, 1) := by decide +kernel
theorem d_Md_playing_18 : decode m_Md_playing.2.1 18 = .ok (.invokestatic 448, 3) := by decide +kernel
theorem d_Md_playing_21 : decode m_Md_playing.2.1 21 = .ok (.invokevirtual 454, 3) := by decide +kernel
theorem d_Md_playing_24 : decode m_Md_playing.2.1 24 = .ok (.aload_n 0, 1) := by decide +kernel
theorem d_Md_playing_25 : decode m_Md_playing.2.1 25 = .ok (.getfield 75, 3) := by decide +kernel
theorem d_Md_playing_28 : decode m_Md_playing.2.1 28 = .ok (.iload_n 2, 1) := by decide +kernel
theorem d_Md_playing_29 : decode m_Md_playing.2.1 29 = .ok (.dup2, 1) := by decide +kernel
theorem d_Md_playing_30 : decode m_Md_playing.2.1 30 = .ok (.iaload, 1) := by decide +kernel
theorem d_Md_playing_31 : decode m_Md_playing.2.1 31 = .ok (.iconst 1, 1) := by decide +kernel
theorem d_Md_playing_32 : decode m_Md_playing.2.1 32 = .ok (.iadd, 1) := by decide +kernel
theorem d_Md_playing_33 : decode m_Md_playing.2.1 33 = .ok (.iastore, 1) := by decide +kernel
theorem d_Md_playing_34 : decode m_Md_playing.2.1 34 = .ok (.aload_n 0, 1) := by decide +kernel
theorem d_Md_playing_35 : decode m_Md_playing.2.1 35 = .ok (.getfield 75, 3) := by decide +kernel
theorem d_Md_playing_38 : decode m_Md_playing.2.1 38 = .ok (.iload_n 2, 1) := by decide +kernel
theorem d_Md_playing_39 : decode m_Md_playing.2.1 39 = .ok (.iaload, 1) := by decide +kernel
theorem d_Md_playing_40 : decode m_Md_playing.2.1 40 = .ok (.istore_n 3, 1) := by decide +kernel
theorem d_Md_playing_41 : decode m_Md_playing.2.1 41 = .ok (.iload_n 3, 1) := by decide +kernel
theorem d_Md_playing_42 : decode m_Md_playing.2.1 42 = .ok (.iconst 2, 1) := by decide +kernel
theorem d_Md_playing_43 : decode m_Md_playing.2.1 43 = .ok (.aload_n 0, 1) := by decide +kernel
theorem d_Md_playing_44 : decode m_Md_playing.2.1 44 = .ok (.iconst 0, 1) := by decide +kernel
theorem d_Md_playing_45 : decode m_Md_playing.2.1 45 = .ok (.invokevirtual 260, 3) := by decide +kernel
theorem d_Md_playing_48 : decode m_Md_playing.2.1 48 = .ok (.imul, 1) := by decide +kernel
theorem d_Md_playing_49 : decode m_Md_playing.2.1 49 = .ok (.if_icmp .le 29, 3) := by decide +kernel
theorem d_Md_playing_78 : decode m_Md_playing.2.1 78 = .ok (.iload_n 3, 1) := by decide +kernel
theorem d_Md_playing_79 : decode m_Md_playing.2.1 79 = .ok (.iconst 2, 1) := by decide +kernel
theorem d_Md_playing_80 : decode m_Md_playing.2.1 80 = .ok (.aload_n 0, 1) := by decide +kernel
theorem d_Md_playing_81 : decode m_Md_playing.2.1 81 = .ok (.iconst 0, 1) := by decide +kernel
theorem d_Md_playing_82 : decode m_Md_playing.2.1 82 = .ok (.invokevirtual 260, 3) := by decide +kernel
theorem d_Md_playing_85 : decode m_Md_playing.2.1 85 = .ok (.imul, 1) := by decide +kernel
theorem d_Md_playing_86 : decode m_Md_playing.2.1 86 = .ok (.if_icmp .ge 20, 3) := by decide +kernel
theorem d_Md_playing_106 : decode m_Md_playing.2.1 106 = .ok (.iload_n 2, 1) := by decide +kernel
theorem d_Md_playing_107 : decode m_Md_playing.2.1 107 = .ok (.iconst 1, 1) := by decide +kernel
theorem d_Md_playing_108 : decode m_Md_playing.2.1 108 = .ok (.iadd, 1) := by decide +kernel
theorem d_Md_playing_109 : decode m_Md_playing.2.1 109 = .ok (.iload_n 1, 1) := by decide +kernel
theorem d_Md_playing_110 : decode m_Md_playing.2.1 110 = .ok (.if_icmp .ne 15, 3) := by decide +kernel
theorem d_Md_playing_125 : decode m_Md_playing.2.1 125 = .ok (.iinc 2 1, 3) := by decide +kernel
theorem d_Md_playing_128 : decode m_Md_playing.2.1 128 = .ok (.aload_n 0, 1) := by decide +kernel
theorem d_Md_playing_129 : decode m_Md_playing.2.1 129 = .ok (.iload_n 2, 1) := by decide +kernel
theorem d_Md_playing_130 : decode m_Md_playing.2.1 130 = .ok (.invokevirtual 466, 3) := by decide +kernel
theorem d_Md_playing_133 : decode m_Md_playing.2.1 133 = .ok (.goto (-117), 3) := by decide +kernel
theorem d_Md_playing_113 : decode m_Md_playing.2.1 113 = .ok (.aload_n 0, 1) := by decide +kernel
theorem d_Md_playing_114 : decode m_Md_playing.2.1 114 = .ok (.iload_n 2, 1) := by decide +kernel
theorem d_Md_playing_115 : decode m_Md_playing.2.1 115 = .ok (.aload_n 0, 1) := by decide +kernel
theorem d_Md_playing_116 : decode m_Md_playing.2.1 116 = .ok (.invokevirtual 334, 3) := by decide +kernel
theorem d_Md_playing_119 : decode m_Md_playing.2.1 119 = .ok (.invokevirtual 469, 3) := by decide +kernel
abbrev m_Md_settles : aw_MI := (⟨"MaypoleGreenModel", "settles", "(II)V"⟩, prog_14_method_122_code, 4, none)
theorem lk_Md_469 : Cond.methodLink "MaypoleGreenModel" 469 m_Md_settles.1 ∈ aw_T := aw_in 1904 (by decide +kernel) rfl
theorem k_Md_settles : aw_K m_Md_settles 2 := ⟨aw_in 1907 (by decide +kernel) rfl, aw_in 16 (by decide +kernel) rfl, ⟨by decide, by decide, by decide +kernel⟩, by decide, by decide +kernel⟩
theorem in_Md_settles : Cond.instanceMethod m_Md_settles.1 ∈ aw_T := aw_in 1906 (by decide +kernel) rfl
theorem se_Md_settles : Cond.selects m_Md_settles.1.cls m_Md_settles.1 m_Md_settles.1 ∈ aw_T := aw_inP 132 (by decide +kernel) rfl
theorem d_Md_playing_122 : decode m_Md_playing.2.1 122 = .ok (.goto 11, 3) := by decide +kernel
theorem d_Md_playing_89 : decode m_Md_playing.2.1 89 = .ok (.aload_n 0, 1) := by decide +kernel
theorem d_Md_playing_90 : decode m_Md_playing.2.1 90 = .ok (.iconst 0, 1) := by decide +kernel
theorem d_Md_playing_91 : decode m_Md_playing.2.1 91 = .ok (.iload_n 3, 1) := by decide +kernel
theorem d_Md_playing_92 : decode m_Md_playing.2.1 92 = .ok (.iconst 2, 1) := by decide +kernel
theorem d_Md_playing_93 : decode m_Md_playing.2.1 93 = .ok (.idiv, 1) := by decide +kernel
theorem d_Md_playing_94 : decode m_Md_playing.2.1 94 = .ok (.iload_n 3, 1) := by decide +kernel
theorem d_Md_playing_95 : decode m_Md_playing.2.1 95 = .ok (.iconst 2, 1) := by decide +kernel
theorem d_Md_playing_96 : decode m_Md_playing.2.1 96 = .ok (.irem, 1) := by decide +kernel
theorem d_Md_playing_97 : decode m_Md_playing.2.1 97 = .ok (.invokevirtual 269, 3) := by decide +kernel
theorem d_Md_playing_100 : decode m_Md_playing.2.1 100 = .ok (.ifCond .ne 6, 3) := by decide +kernel
theorem d_Md_playing_103 : decode m_Md_playing.2.1 103 = .ok (.goto (-87), 3) := by decide +kernel
theorem d_Md_playing_52 : decode m_Md_playing.2.1 52 = .ok (.iload_n 2, 1) := by decide +kernel
theorem d_Md_playing_53 : decode m_Md_playing.2.1 53 = .ok (.ifCond .ne 6, 3) := by decide +kernel
theorem d_Md_playing_59 : decode m_Md_playing.2.1 59 = .ok (.iinc 2 (-1), 3) := by decide +kernel
theorem d_Md_playing_62 : decode m_Md_playing.2.1 62 = .ok (.aload_n 0, 1) := by decide +kernel
theorem d_Md_playing_63 : decode m_Md_playing.2.1 63 = .ok (.iload_n 2, 1) := by decide +kernel
theorem d_Md_playing_64 : decode m_Md_playing.2.1 64 = .ok (.aload_n 0, 1) := by decide +kernel
theorem d_Md_playing_65 : decode m_Md_playing.2.1 65 = .ok (.getfield 84, 3) := by decide +kernel
theorem f_Md_84 : aw_F "MaypoleGreenModel" 84 11 40 true := ⟨cR11, cT11, 52, fun k => cY11.getD k .int, rfl, ci11, cy11, cn11, rfl, by decide, aw_in 1295 (by decide +kernel) rfl, rfl, rfl, rfl⟩
theorem d_Md_playing_68 : decode m_Md_playing.2.1 68 = .ok (.iload_n 2, 1) := by decide +kernel
theorem d_Md_playing_69 : decode m_Md_playing.2.1 69 = .ok (.iconst 1, 1) := by decide +kernel
theorem d_Md_playing_70 : decode m_Md_playing.2.1 70 = .ok (.iadd, 1) := by decide +kernel
theorem d_Md_playing_71 : decode m_Md_playing.2.1 71 = .ok (.iaload, 1) := by decide +kernel
theorem d_Md_playing_72 : decode m_Md_playing.2.1 72 = .ok (.invokevirtual 469, 3) := by decide +kernel
theorem d_Md_playing_75 : decode m_Md_playing.2.1 75 = .ok (.goto (-59), 3) := by decide +kernel
theorem d_Md_playing_56 : decode m_Md_playing.2.1 56 = .ok (.goto 80, 3) := by decide +kernel
theorem d_Md_playing_136 : decode m_Md_playing.2.1 136 = .ok (.aload_n 0, 1) := by decide +kernel
theorem d_Md_playing_137 : decode m_Md_playing.2.1 137 = .ok (.iconst 0, 1) := by decide +kernel
theorem d_Md_playing_138 : decode m_Md_playing.2.1 138 = .ok (.invokestatic 448, 3) := by decide +kernel
theorem d_Md_playing_141 : decode m_Md_playing.2.1 141 = .ok (.invokevirtual 454, 3) := by decide +kernel
theorem d_Md_playing_144 : decode m_Md_playing.2.1 144 = .ok (.aload_n 0, 1) := by decide +kernel
theorem d_Md_playing_145 : decode m_Md_playing.2.1 145 = .ok (.getfield 84, 3) := by decide +kernel
theorem d_Md_playing_148 : decode m_Md_playing.2.1 148 = .ok (.iconst 0, 1) := by decide +kernel
theorem d_Md_playing_149 : decode m_Md_playing.2.1 149 = .ok (.iaload, 1) := by decide +kernel
theorem d_Md_playing_150 : decode m_Md_playing.2.1 150 = .ok (.ireturn, 1) := by decide +kernel
theorem d_Md_beginsAt_0 : decode m_Md_beginsAt.2.1 0 = .ok (.aload_n 0, 1) := by decide +kernel
theorem d_Md_beginsAt_1 : decode m_Md_beginsAt.2.1 1 = .ok (.iload_n 1, 1) := by decide +kernel
theorem d_Md_beginsAt_2 : decode m_Md_beginsAt.2.1 2 = .ok (.invokestatic 448, 3) := by decide +kernel
theorem d_Md_beginsAt_5 : decode m_Md_beginsAt.2.1 5 = .ok (.invokevirtual 451, 3) := by decide +kernel
theorem d_Md_beginsAt_8 : decode m_Md_beginsAt.2.1 8 = .ok (.aload_n 0, 1) := by decide +kernel
theorem d_Md_beginsAt_9 : decode m_Md_beginsAt.2.1 9 = .ok (.getfield 75, 3) := by decide +kernel
theorem d_Md_beginsAt_12 : decode m_Md_beginsAt.2.1 12 = .ok (.iload_n 1, 1) := by decide +kernel
theorem d_Md_beginsAt_13 : decode m_Md_beginsAt.2.1 13 = .ok (.iconst (-1), 1) := by decide +kernel
theorem d_Md_beginsAt_14 : decode m_Md_beginsAt.2.1 14 = .ok (.iastore, 1) := by decide +kernel
theorem d_Md_beginsAt_15 : decode m_Md_beginsAt.2.1 15 = .ok (.aload_n 0, 1) := by decide +kernel
theorem d_Md_beginsAt_16 : decode m_Md_beginsAt.2.1 16 = .ok (.getfield 87, 3) := by decide +kernel
theorem f_Md_87 : aw_F "MaypoleGreenModel" 87 11 41 true := ⟨cR11, cT11, 52, fun k => cY11.getD k .int, rfl, ci11, cy11, cn11, rfl, by decide, aw_in 1296 (by decide +kernel) rfl, rfl, rfl, rfl⟩
theorem d_Md_beginsAt_19 : decode m_Md_beginsAt.2.1 19 = .ok (.iload_n 1, 1) := by decide +kernel
theorem d_Md_beginsAt_20 : decode m_Md_beginsAt.2.1 20 = .ok (.iconst (-1), 1) := by decide +kernel
theorem d_Md_beginsAt_21 : decode m_Md_beginsAt.2.1 21 = .ok (.iastore, 1) := by decide +kernel
theorem d_Md_beginsAt_22 : decode m_Md_beginsAt.2.1 22 = .ok (.return_, 1) := by decide +kernel
theorem d_Md_settles_0 : decode m_Md_settles.2.1 0 = .ok (.aload_n 0, 1) := by decide +kernel
theorem d_Md_settles_1 : decode m_Md_settles.2.1 1 = .ok (.getfield 87, 3) := by decide +kernel
theorem d_Md_settles_4 : decode m_Md_settles.2.1 4 = .ok (.iload_n 1, 1) := by decide +kernel
theorem d_Md_settles_5 : decode m_Md_settles.2.1 5 = .ok (.iaload, 1) := by decide +kernel
theorem d_Md_settles_6 : decode m_Md_settles.2.1 6 = .ok (.iconst (-1), 1) := by decide +kernel
theorem d_Md_settles_7 : decode m_Md_settles.2.1 7 = .ok (.if_icmp .ne 7, 3) := by decide +kernel
theorem d_Md_settles_14 : decode m_Md_settles.2.1 14 = .ok (.iconst 0, 1) := by decide +kernel
theorem d_Md_settles_15 : decode m_Md_settles.2.1 15 = .ok (.istore_n 3, 1) := by decide +kernel
theorem d_Md_settles_16 : decode m_Md_settles.2.1 16 = .ok (.iload_n 3, 1) := by decide +kernel
theorem d_Md_settles_17 : decode m_Md_settles.2.1 17 = .ok (.ifCond .ne 33, 3) := by decide +kernel
theorem d_Md_settles_20 : decode m_Md_settles.2.1 20 = .ok (.iload_n 1, 1) := by decide +kernel
theorem d_Md_settles_21 : decode m_Md_settles.2.1 21 = .ok (.iconst 2, 1) := by decide +kernel
theorem d_Md_settles_22 : decode m_Md_settles.2.1 22 = .ok (.irem, 1) := by decide +kernel
theorem d_Md_settles_23 : decode m_Md_settles.2.1 23 = .ok (.ifCond .ne 16, 3) := by decide +kernel
theorem d_Md_settles_39 : decode m_Md_settles.2.1 39 = .ok (.iload_n 2, 1) := by decide +kernel
theorem d_Md_settles_40 : decode m_Md_settles.2.1 40 = .ok (.aload_n 0, 1) := by decide +kernel
theorem d_Md_settles_41 : decode m_Md_settles.2.1 41 = .ok (.getfield 84, 3) := by decide +kernel
theorem d_Md_settles_44 : decode m_Md_settles.2.1 44 = .ok (.iload_n 1, 1) := by decide +kernel
theorem d_Md_settles_45 : decode m_Md_settles.2.1 45 = .ok (.iaload, 1) := by decide +kernel
theorem d_Md_settles_46 : decode m_Md_settles.2.1 46 = .ok (.if_icmp .lt 4, 3) := by decide +kernel
theorem d_Md_settles_50 : decode m_Md_settles.2.1 50 = .ok (.aload_n 0, 1) := by decide +kernel
theorem d_Md_settles_51 : decode m_Md_settles.2.1 51 = .ok (.getfield 84, 3) := by decide +kernel
theorem d_Md_settles_54 : decode m_Md_settles.2.1 54 = .ok (.iload_n 1, 1) := by decide +kernel
theorem d_Md_settles_55 : decode m_Md_settles.2.1 55 = .ok (.iload_n 2, 1) := by decide +kernel
theorem d_Md_settles_56 : decode m_Md_settles.2.1 56 = .ok (.iastore, 1) := by decide +kernel
theorem d_Md_settles_57 : decode m_Md_settles.2.1 57 = .ok (.aload_n 0, 1) := by decide +kernel
theorem d_Md_settles_58 : decode m_Md_settles.2.1 58 = .ok (.getfield 87, 3) := by decide +kernel
theorem d_Md_settles_61 : decode m_Md_settles.2.1 61 = .ok (.iload_n 1, 1) := by decide +kernel
theorem d_Md_settles_62 : decode m_Md_settles.2.1 62 = .ok (.aload_n 0, 1) := by decide +kernel
theorem d_Md_settles_63 : decode m_Md_settles.2.1 63 = .ok (.getfield 75, 3) := by decide +kernel
theorem d_Md_settles_66 : decode m_Md_settles.2.1 66 = .ok (.iload_n 1, 1) := by decide +kernel
theorem d_Md_settles_67 : decode m_Md_settles.2.1 67 = .ok (.iaload, 1) := by decide +kernel
theorem d_Md_settles_68 : decode m_Md_settles.2.1 68 = .ok (.iastore, 1) := by decide +kernel
theorem d_Md_settles_69 : decode m_Md_settles.2.1 69 = .ok (.return_, 1) := by decide +kernel
theorem d_Md_settles_49 : decode m_Md_settles.2.1 49 = .ok (.return_, 1) := by decide +kernel
theorem d_Md_settles_26 : decode m_Md_settles.2.1 26 = .ok (.iload_n 2, 1) := by decide +kernel
theorem d_Md_settles_27 : decode m_Md_settles.2.1 27 = .ok (.aload_n 0, 1) := by decide +kernel
theorem d_Md_settles_28 : decode m_Md_settles.2.1 28 = .ok (.getfield 84, 3) := by decide +kernel
theorem d_Md_settles_31 : decode m_Md_settles.2.1 31 = .ok (.iload_n 1, 1) := by decide +kernel
theorem d_Md_settles_32 : decode m_Md_settles.2.1 32 = .ok (.iaload, 1) := by decide +kernel
theorem d_Md_settles_33 : decode m_Md_settles.2.1 33 = .ok (.if_icmp .gt 17, 3) := by decide +kernel
theorem d_Md_settles_36 : decode m_Md_settles.2.1 36 = .ok (.goto 13, 3) := by decide +kernel
theorem d_Md_settles_10 : decode m_Md_settles.2.1 10 = .ok (.iconst 1, 1) := by decide +kernel
theorem d_Md_settles_11 : decode m_Md_settles.2.1 11 = .ok (.goto 4, 3) := by decide +kernel
abbrev m_Md_moveOf : aw_MI := (⟨"MaypoleGreenModel", "moveOf", "(I)I"⟩, prog_14_method_126_code, 2, some .int)
theorem k_Md_moveOf : aw_K m_Md_moveOf 1 := ⟨aw_in 1911 (by decide +kernel) rfl, aw_in 16 (by decide +kernel) rfl, ⟨by decide, by decide, by decide +kernel⟩, by decide, by decide +kernel⟩
theorem d_Md_moveOf_0 : decode m_Md_moveOf.2.1 0 = .ok (.iload_n 1, 1) := by decide +kernel
theorem d_Md_moveOf_1 : decode m_Md_moveOf.2.1 1 = .ok (.i2l, 1) := by decide +kernel
theorem d_Md_moveOf_2 : decode m_Md_moveOf.2.1 2 = .ok (.lconst 1, 1) := by decide +kernel
theorem d_Md_moveOf_3 : decode m_Md_moveOf.2.1 3 = .ok (.ldc2_w 472, 3) := by decide +kernel
theorem d_Md_moveOf_6 : decode m_Md_moveOf.2.1 6 = .ok (.invokestatic 372, 3) := by decide +kernel
theorem d_Md_moveOf_9 : decode m_Md_moveOf.2.1 9 = .ok (.ifCond .ne 9, 3) := by decide +kernel
theorem d_Md_moveOf_18 : decode m_Md_moveOf.2.1 18 = .ok (.aload_n 0, 1) := by decide +kernel
theorem d_Md_moveOf_19 : decode m_Md_moveOf.2.1 19 = .ok (.iload_n 1, 1) := by decide +kernel
theorem d_Md_moveOf_20 : decode m_Md_moveOf.2.1 20 = .ok (.invokevirtual 474, 3) := by decide +kernel
theorem d_Md_moveOf_23 : decode m_Md_moveOf.2.1 23 = .ok (.pop, 1) := by decide +kernel
theorem d_Md_moveOf_24 : decode m_Md_moveOf.2.1 24 = .ok (.aload_n 0, 1) := by decide +kernel
theorem d_Md_moveOf_25 : decode m_Md_moveOf.2.1 25 = .ok (.getfield 87, 3) := by decide +kernel
theorem d_Md_moveOf_28 : decode m_Md_moveOf.2.1 28 = .ok (.iconst 0, 1) := by decide +kernel
theorem d_Md_moveOf_29 : decode m_Md_moveOf.2.1 29 = .ok (.iaload, 1) := by decide +kernel
theorem d_Md_moveOf_30 : decode m_Md_moveOf.2.1 30 = .ok (.iconst 2, 1) := by decide +kernel
theorem d_Md_moveOf_31 : decode m_Md_moveOf.2.1 31 = .ok (.aload_n 0, 1) := by decide +kernel
theorem d_Md_moveOf_32 : decode m_Md_moveOf.2.1 32 = .ok (.iconst 0, 1) := by decide +kernel
theorem d_Md_moveOf_33 : decode m_Md_moveOf.2.1 33 = .ok (.invokevirtual 260, 3) := by decide +kernel
theorem d_Md_moveOf_36 : decode m_Md_moveOf.2.1 36 = .ok (.imul, 1) := by decide +kernel
theorem d_Md_moveOf_37 : decode m_Md_moveOf.2.1 37 = .ok (.if_icmp .ne 12, 3) := by decide +kernel
theorem d_Md_moveOf_49 : decode m_Md_moveOf.2.1 49 = .ok (.aload_n 0, 1) := by decide +kernel
theorem d_Md_moveOf_50 : decode m_Md_moveOf.2.1 50 = .ok (.aload_n 0, 1) := by decide +kernel
theorem d_Md_moveOf_51 : decode m_Md_moveOf.2.1 51 = .ok (.getfield 87, 3) := by decide +kernel
theorem d_Md_moveOf_54 : decode m_Md_moveOf.2.1 54 = .ok (.iconst 0, 1) := by decide +kernel
theorem d_Md_moveOf_55 : decode m_Md_moveOf.2.1 55 = .ok (.iaload, 1) := by decide +kernel
theorem d_Md_moveOf_56 : decode m_Md_moveOf.2.1 56 = .ok (.invokevirtual 122, 3) := by decide +kernel
theorem d_Md_moveOf_59 : decode m_Md_moveOf.2.1 59 = .ok (.ireturn, 1) := by decide +kernel
theorem d_Md_moveOf_40 : decode m_Md_moveOf.2.1 40 = .ok (.aload_n 0, 1) := by decide +kernel
theorem d_Md_moveOf_41 : decode m_Md_moveOf.2.1 41 = .ok (.bipush 6, 2) := by decide +kernel
theorem d_Md_moveOf_43 : decode m_Md_moveOf.2.1 43 = .ok (.invokevirtual 118, 3) := by decide +kernel
theorem d_Md_moveOf_46 : decode m_Md_moveOf.2.1 46 = .ok (.goto 13, 3) := by decide +kernel
theorem d_Md_moveOf_12 : decode m_Md_moveOf.2.1 12 = .ok (.aload_n 0, 1) := by decide +kernel
theorem d_Md_moveOf_13 : decode m_Md_moveOf.2.1 13 = .ok (.iconst 1, 1) := by decide +kernel
theorem d_Md_moveOf_14 : decode m_Md_moveOf.2.1 14 = .ok (.invokevirtual 118, 3) := by decide +kernel
theorem d_Md_moveOf_17 : decode m_Md_moveOf.2.1 17 = .ok (.ireturn, 1) := by decide +kernel
abbrev m_Md_slipped : aw_MI := (⟨"MaypoleGreenModel", "slipped", "(II)Z"⟩, prog_14_method_127_code, 8, some .boolean)
theorem k_Md_slipped : aw_K m_Md_slipped 2 := ⟨aw_in 1915 (by decide +kernel) rfl, aw_in 16 (by decide +kernel) rfl, ⟨by decide, by decide, by decide +kernel⟩, by decide, by decide +kernel⟩
theorem d_Md_slipped_0 : decode m_Md_slipped.2.1 0 = .ok (.iload_n 1, 1) := by decide +kernel
theorem d_Md_slipped_1 : decode m_Md_slipped.2.1 1 = .ok (.i2l, 1) := by decide +kernel
theorem d_Md_slipped_2 : decode m_Md_slipped.2.1 2 = .ok (.lconst 0, 1) := by decide +kernel
theorem d_Md_slipped_3 : decode m_Md_slipped.2.1 3 = .ok (.ldc2_w 477, 3) := by decide +kernel
theorem cl_Md_477 : Cond.constantLong "MaypoleGreenModel" 477 (12) ∈ aw_T := aw_in 1916 (by decide +kernel) rfl
theorem d_Md_slipped_6 : decode m_Md_slipped.2.1 6 = .ok (.invokestatic 372, 3) := by decide +kernel
theorem d_Md_slipped_9 : decode m_Md_slipped.2.1 9 = .ok (.ifCond .eq 15, 3) := by decide +kernel
theorem d_Md_slipped_24 : decode m_Md_slipped.2.1 24 = .ok (.aload_n 0, 1) := by decide +kernel
theorem d_Md_slipped_25 : decode m_Md_slipped.2.1 25 = .ok (.iconst 1, 1) := by decide +kernel
theorem d_Md_slipped_26 : decode m_Md_slipped.2.1 26 = .ok (.invokevirtual 125, 3) := by decide +kernel
theorem d_Md_slipped_29 : decode m_Md_slipped.2.1 29 = .ok (.ireturn, 1) := by decide +kernel
theorem d_Md_slipped_12 : decode m_Md_slipped.2.1 12 = .ok (.iload_n 2, 1) := by decide +kernel
theorem d_Md_slipped_13 : decode m_Md_slipped.2.1 13 = .ok (.i2l, 1) := by decide +kernel
theorem d_Md_slipped_14 : decode m_Md_slipped.2.1 14 = .ok (.lconst 0, 1) := by decide +kernel
theorem d_Md_slipped_15 : decode m_Md_slipped.2.1 15 = .ok (.ldc2_w 477, 3) := by decide +kernel
theorem d_Md_slipped_18 : decode m_Md_slipped.2.1 18 = .ok (.invokestatic 372, 3) := by decide +kernel
theorem d_Md_slipped_21 : decode m_Md_slipped.2.1 21 = .ok (.ifCond .ne 9, 3) := by decide +kernel
theorem d_Md_slipped_30 : decode m_Md_slipped.2.1 30 = .ok (.lconst 1, 1) := by decide +kernel
theorem d_Md_slipped_31 : decode m_Md_slipped.2.1 31 = .ok (.lstore_n 3, 1) := by decide +kernel
theorem d_Md_slipped_32 : decode m_Md_slipped.2.1 32 = .ok (.iconst 0, 1) := by decide +kernel
theorem d_Md_slipped_33 : decode m_Md_slipped.2.1 33 = .ok (.istore 5, 2) := by decide +kernel
theorem d_Md_slipped_35 : decode m_Md_slipped.2.1 35 = .ok (.iload 5, 2) := by decide +kernel
theorem d_Md_slipped_37 : decode m_Md_slipped.2.1 37 = .ok (.bipush 13, 2) := by decide +kernel
theorem d_Md_slipped_39 : decode m_Md_slipped.2.1 39 = .ok (.if_icmp .ge 26, 3) := by decide +kernel
theorem d_Md_slipped_65 : decode m_Md_slipped.2.1 65 = .ok (.iconst 0, 1) := by decide +kernel
theorem d_Md_slipped_66 : decode m_Md_slipped.2.1 66 = .ok (.istore 5, 2) := by decide +kernel
theorem d_Md_slipped_42 : decode m_Md_slipped.2.1 42 = .ok (.aload_n 0, 1) := by decide +kernel
theorem d_Md_slipped_43 : decode m_Md_slipped.2.1 43 = .ok (.getfield 90, 3) := by decide +kernel
theorem f_Md_90 : aw_F "MaypoleGreenModel" 90 11 42 true := ⟨cR11, cT11, 52, fun k => cY11.getD k .int, rfl, ci11, cy11, cn11, rfl, by decide, aw_in 1297 (by decide +kernel) rfl, rfl, rfl, rfl⟩
theorem d_Md_slipped_46 : decode m_Md_slipped.2.1 46 = .ok (.iload 5, 2) := by decide +kernel
theorem d_Md_slipped_48 : decode m_Md_slipped.2.1 48 = .ok (.iload 5, 2) := by decide +kernel
theorem d_Md_slipped_50 : decode m_Md_slipped.2.1 50 = .ok (.ifCond .ne 7, 3) := by decide +kernel
theorem d_Md_slipped_57 : decode m_Md_slipped.2.1 57 = .ok (.lconst 0, 1) := by decide +kernel
theorem d_Md_slipped_58 : decode m_Md_slipped.2.1 58 = .ok (.lastore, 1) := by decide +kernel
theorem d_Md_slipped_59 : decode m_Md_slipped.2.1 59 = .ok (.iinc 5 1, 3) := by decide +kernel
theorem d_Md_slipped_62 : decode m_Md_slipped.2.1 62 = .ok (.goto (-27), 3) := by decide +kernel
theorem d_Md_slipped_53 : decode m_Md_slipped.2.1 53 = .ok (.lconst 1, 1) := by decide +kernel
theorem d_Md_slipped_54 : decode m_Md_slipped.2.1 54 = .ok (.goto 4, 3) := by decide +kernel
theorem d_Md_slipped_68 : decode m_Md_slipped.2.1 68 = .ok (.iload 5, 2) := by decide +kernel
theorem d_Md_slipped_70 : decode m_Md_slipped.2.1 70 = .ok (.iload_n 1, 1) := by decide +kernel
theorem d_Md_slipped_71 : decode m_Md_slipped.2.1 71 = .ok (.if_icmp .ge 82, 3) := by decide +kernel
theorem d_Md_slipped_153 : decode m_Md_slipped.2.1 153 = .ok (.lconst 0, 1) := by decide +kernel
theorem d_Md_slipped_154 : decode m_Md_slipped.2.1 154 = .ok (.lstore 5, 2) := by decide +kernel
theorem d_Md_slipped_156 : decode m_Md_slipped.2.1 156 = .ok (.iload_n 2, 1) := by decide +kernel
theorem d_Md_slipped_157 : decode m_Md_slipped.2.1 157 = .ok (.istore 7, 2) := by decide +kernel
theorem d_Md_slipped_74 : decode m_Md_slipped.2.1 74 = .ok (.bipush 12, 2) := by decide +kernel
theorem d_Md_slipped_76 : decode m_Md_slipped.2.1 76 = .ok (.istore 6, 2) := by decide +kernel
theorem d_Md_slipped_159 : decode m_Md_slipped.2.1 159 = .ok (.iload 7, 2) := by decide +kernel
theorem d_Md_slipped_161 : decode m_Md_slipped.2.1 161 = .ok (.bipush 13, 2) := by decide +kernel
theorem d_Md_slipped_163 : decode m_Md_slipped.2.1 163 = .ok (.if_icmp .ge 21, 3) := by decide +kernel
theorem d_Md_slipped_184 : decode m_Md_slipped.2.1 184 = .ok (.aload_n 0, 1) := by decide +kernel
theorem d_Md_slipped_185 : decode m_Md_slipped.2.1 185 = .ok (.lload 5, 2) := by decide +kernel
theorem d_Md_slipped_187 : decode m_Md_slipped.2.1 187 = .ok (.lload_n 3, 1) := by decide +kernel
theorem d_Md_slipped_188 : decode m_Md_slipped.2.1 188 = .ok (.invokevirtual 479, 3) := by decide +kernel
abbrev m_Md_tellsBy : aw_MI := (⟨"MaypoleGreenModel", "tellsBy", "(JJ)Z"⟩, prog_14_method_10_code, 11, some .boolean)
theorem lk_Md_479 : Cond.methodLink "MaypoleGreenModel" 479 m_Md_tellsBy.1 ∈ aw_T := aw_in 1917 (by decide +kernel) rfl
theorem k_Md_tellsBy : aw_K m_Md_tellsBy 2 := ⟨aw_in 1920 (by decide +kernel) rfl, aw_in 16 (by decide +kernel) rfl, ⟨by decide, by decide, by decide +kernel⟩, by decide, by decide +kernel⟩
theorem in_Md_tellsBy : Cond.instanceMethod m_Md_tellsBy.1 ∈ aw_T := aw_in 1919 (by decide +kernel) rfl
theorem se_Md_tellsBy : Cond.selects m_Md_tellsBy.1.cls m_Md_tellsBy.1 m_Md_tellsBy.1 ∈ aw_T := aw_inP 133 (by decide +kernel) rfl
theorem d_Md_slipped_191 : decode m_Md_slipped.2.1 191 = .ok (.ireturn, 1) := by decide +kernel
theorem d_Md_slipped_166 : decode m_Md_slipped.2.1 166 = .ok (.lload 5, 2) := by decide +kernel
theorem d_Md_slipped_168 : decode m_Md_slipped.2.1 168 = .ok (.aload_n 0, 1) := by decide +kernel
theorem d_Md_slipped_169 : decode m_Md_slipped.2.1 169 = .ok (.getfield 90, 3) := by decide +kernel
theorem d_Md_slipped_172 : decode m_Md_slipped.2.1 172 = .ok (.iload 7, 2) := by decide +kernel
theorem d_Md_slipped_174 : decode m_Md_slipped.2.1 174 = .ok (.laload, 1) := by decide +kernel
theorem d_Md_slipped_175 : decode m_Md_slipped.2.1 175 = .ok (.ladd, 1) := by decide +kernel
theorem d_Md_slipped_176 : decode m_Md_slipped.2.1 176 = .ok (.lstore 5, 2) := by decide +kernel
theorem d_Md_slipped_178 : decode m_Md_slipped.2.1 178 = .ok (.iinc 7 1, 3) := by decide +kernel
theorem d_Md_slipped_181 : decode m_Md_slipped.2.1 181 = .ok (.goto (-22), 3) := by decide +kernel
theorem d_Md_slipped_78 : decode m_Md_slipped.2.1 78 = .ok (.iload 6, 2) := by decide +kernel
theorem d_Md_slipped_80 : decode m_Md_slipped.2.1 80 = .ok (.ifCond .lt 61, 3) := by decide +kernel
theorem d_Md_slipped_141 : decode m_Md_slipped.2.1 141 = .ok (.lload_n 3, 1) := by decide +kernel
theorem d_Md_slipped_142 : decode m_Md_slipped.2.1 142 = .ok (.ldc2_w 382, 3) := by decide +kernel
theorem d_Md_slipped_145 : decode m_Md_slipped.2.1 145 = .ok (.lmul, 1) := by decide +kernel
theorem d_Md_slipped_146 : decode m_Md_slipped.2.1 146 = .ok (.lstore_n 3, 1) := by decide +kernel
theorem d_Md_slipped_147 : decode m_Md_slipped.2.1 147 = .ok (.iinc 5 1, 3) := by decide +kernel
theorem d_Md_slipped_150 : decode m_Md_slipped.2.1 150 = .ok (.goto (-82), 3) := by decide +kernel
theorem d_Md_slipped_83 : decode m_Md_slipped.2.1 83 = .ok (.aload_n 0, 1) := by decide +kernel
theorem d_Md_slipped_84 : decode m_Md_slipped.2.1 84 = .ok (.getfield 90, 3) := by decide +kernel
theorem d_Md_slipped_87 : decode m_Md_slipped.2.1 87 = .ok (.iload 6, 2) := by decide +kernel
theorem d_Md_slipped_89 : decode m_Md_slipped.2.1 89 = .ok (.aload_n 0, 1) := by decide +kernel
theorem d_Md_slipped_90 : decode m_Md_slipped.2.1 90 = .ok (.getfield 90, 3) := by decide +kernel
theorem d_Md_slipped_93 : decode m_Md_slipped.2.1 93 = .ok (.iload 6, 2) := by decide +kernel
theorem d_Md_slipped_95 : decode m_Md_slipped.2.1 95 = .ok (.laload, 1) := by decide +kernel
theorem d_Md_slipped_96 : decode m_Md_slipped.2.1 96 = .ok (.bipush 16, 2) := by decide +kernel
theorem d_Md_slipped_98 : decode m_Md_slipped.2.1 98 = .ok (.aload_n 0, 1) := by decide +kernel
theorem d_Md_slipped_99 : decode m_Md_slipped.2.1 99 = .ok (.getfield 7, 3) := by decide +kernel
theorem d_Md_slipped_102 : decode m_Md_slipped.2.1 102 = .ok (.iconst 1, 1) := by decide +kernel
theorem d_Md_slipped_103 : decode m_Md_slipped.2.1 103 = .ok (.iaload, 1) := by decide +kernel
theorem d_Md_slipped_104 : decode m_Md_slipped.2.1 104 = .ok (.isub, 1) := by decide +kernel
theorem d_Md_slipped_105 : decode m_Md_slipped.2.1 105 = .ok (.i2l, 1) := by decide +kernel
theorem d_Md_slipped_106 : decode m_Md_slipped.2.1 106 = .ok (.lmul, 1) := by decide +kernel
theorem d_Md_slipped_107 : decode m_Md_slipped.2.1 107 = .ok (.iload 6, 2) := by decide +kernel
theorem d_Md_slipped_109 : decode m_Md_slipped.2.1 109 = .ok (.ifCond .ne 7, 3) := by decide +kernel
theorem d_Md_slipped_116 : decode m_Md_slipped.2.1 116 = .ok (.aload_n 0, 1) := by decide +kernel
theorem d_Md_slipped_117 : decode m_Md_slipped.2.1 117 = .ok (.getfield 90, 3) := by decide +kernel
theorem d_Md_slipped_120 : decode m_Md_slipped.2.1 120 = .ok (.iload 6, 2) := by decide +kernel
theorem d_Md_slipped_122 : decode m_Md_slipped.2.1 122 = .ok (.iconst 1, 1) := by decide +kernel
theorem d_Md_slipped_123 : decode m_Md_slipped.2.1 123 = .ok (.isub, 1) := by decide +kernel
theorem d_Md_slipped_124 : decode m_Md_slipped.2.1 124 = .ok (.laload, 1) := by decide +kernel
theorem d_Md_slipped_125 : decode m_Md_slipped.2.1 125 = .ok (.aload_n 0, 1) := by decide +kernel
theorem d_Md_slipped_126 : decode m_Md_slipped.2.1 126 = .ok (.getfield 7, 3) := by decide +kernel
theorem d_Md_slipped_129 : decode m_Md_slipped.2.1 129 = .ok (.iconst 1, 1) := by decide +kernel
theorem d_Md_slipped_130 : decode m_Md_slipped.2.1 130 = .ok (.iaload, 1) := by decide +kernel
theorem d_Md_slipped_131 : decode m_Md_slipped.2.1 131 = .ok (.i2l, 1) := by decide +kernel
theorem d_Md_slipped_132 : decode m_Md_slipped.2.1 132 = .ok (.lmul, 1) := by decide +kernel
theorem d_Md_slipped_133 : decode m_Md_slipped.2.1 133 = .ok (.ladd, 1) := by decide +kernel
theorem d_Md_slipped_134 : decode m_Md_slipped.2.1 134 = .ok (.lastore, 1) := by decide +kernel
theorem d_Md_slipped_135 : decode m_Md_slipped.2.1 135 = .ok (.iinc 6 (-1), 3) := by decide +kernel
theorem d_Md_slipped_138 : decode m_Md_slipped.2.1 138 = .ok (.goto (-60), 3) := by decide +kernel
theorem d_Md_slipped_112 : decode m_Md_slipped.2.1 112 = .ok (.lconst 0, 1) := by decide +kernel
theorem d_Md_slipped_113 : decode m_Md_slipped.2.1 113 = .ok (.goto 20, 3) := by decide +kernel
theorem d_Md_tellsBy_0 : decode m_Md_tellsBy.2.1 0 = .ok (.lload_n 1, 1) := by decide +kernel
theorem d_Md_tellsBy_1 : decode m_Md_tellsBy.2.1 1 = .ok (.lstore 5, 2) := by decide +kernel
theorem d_Md_tellsBy_3 : decode m_Md_tellsBy.2.1 3 = .ok (.lload_n 3, 1) := by decide +kernel
theorem d_Md_tellsBy_4 : decode m_Md_tellsBy.2.1 4 = .ok (.lstore 7, 2) := by decide +kernel
theorem d_Md_tellsBy_6 : decode m_Md_tellsBy.2.1 6 = .ok (.lload 7, 2) := by decide +kernel
theorem d_Md_tellsBy_8 : decode m_Md_tellsBy.2.1 8 = .ok (.lconst 0, 1) := by decide +kernel
theorem d_Md_tellsBy_9 : decode m_Md_tellsBy.2.1 9 = .ok (.lcmp, 1) := by decide +kernel
theorem d_Md_tellsBy_10 : decode m_Md_tellsBy.2.1 10 = .ok (.ifCond .eq 21, 3) := by decide +kernel
theorem d_Md_tellsBy_31 : decode m_Md_tellsBy.2.1 31 = .ok (.aload_n 0, 1) := by decide +kernel
theorem d_Md_tellsBy_32 : decode m_Md_tellsBy.2.1 32 = .ok (.lload_n 1, 1) := by decide +kernel
theorem d_Md_tellsBy_33 : decode m_Md_tellsBy.2.1 33 = .ok (.lload 5, 2) := by decide +kernel
theorem d_Md_tellsBy_35 : decode m_Md_tellsBy.2.1 35 = .ok (.ldiv, 1) := by decide +kernel
theorem d_Md_tellsBy_36 : decode m_Md_tellsBy.2.1 36 = .ok (.putfield 115, 3) := by decide +kernel
theorem d_Md_tellsBy_39 : decode m_Md_tellsBy.2.1 39 = .ok (.aload_n 0, 1) := by decide +kernel
theorem d_Md_tellsBy_40 : decode m_Md_tellsBy.2.1 40 = .ok (.lload_n 3, 1) := by decide +kernel
theorem d_Md_tellsBy_41 : decode m_Md_tellsBy.2.1 41 = .ok (.lload 5, 2) := by decide +kernel
theorem d_Md_tellsBy_43 : decode m_Md_tellsBy.2.1 43 = .ok (.ldiv, 1) := by decide +kernel
theorem d_Md_tellsBy_44 : decode m_Md_tellsBy.2.1 44 = .ok (.putfield 17, 3) := by decide +kernel
theorem d_Md_tellsBy_47 : decode m_Md_tellsBy.2.1 47 = .ok (.aload_n 0, 1) := by decide +kernel
theorem d_Md_tellsBy_48 : decode m_Md_tellsBy.2.1 48 = .ok (.iconst 0, 1) := by decide +kernel
theorem d_Md_tellsBy_49 : decode m_Md_tellsBy.2.1 49 = .ok (.invokevirtual 125, 3) := by decide +kernel
theorem d_Md_tellsBy_52 : decode m_Md_tellsBy.2.1 52 = .ok (.ireturn, 1) := by decide +kernel
theorem d_Md_tellsBy_13 : decode m_Md_tellsBy.2.1 13 = .ok (.lload 5, 2) := by decide +kernel
theorem d_Md_tellsBy_15 : decode m_Md_tellsBy.2.1 15 = .ok (.lload 7, 2) := by decide +kernel
theorem d_Md_tellsBy_17 : decode m_Md_tellsBy.2.1 17 = .ok (.lrem, 1) := by decide +kernel
theorem d_Md_tellsBy_18 : decode m_Md_tellsBy.2.1 18 = .ok (.lstore 9, 2) := by decide +kernel
theorem d_Md_tellsBy_20 : decode m_Md_tellsBy.2.1 20 = .ok (.lload 7, 2) := by decide +kernel
theorem d_Md_tellsBy_22 : decode m_Md_tellsBy.2.1 22 = .ok (.lstore 5, 2) := by decide +kernel
theorem d_Md_tellsBy_24 : decode m_Md_tellsBy.2.1 24 = .ok (.lload 9, 2) := by decide +kernel
theorem d_Md_tellsBy_26 : decode m_Md_tellsBy.2.1 26 = .ok (.lstore 7, 2) := by decide +kernel
theorem d_Md_tellsBy_28 : decode m_Md_tellsBy.2.1 28 = .ok (.goto (-22), 3) := by decide +kernel
abbrev m_Md_drift : aw_MI := (⟨"MaypoleGreenModel", "drift", "(III)Z"⟩, prog_14_method_128_code, 11, some .boolean)
theorem k_Md_drift : aw_K m_Md_drift 3 := ⟨aw_in 1924 (by decide +kernel) rfl, aw_in 16 (by decide +kernel) rfl, ⟨by decide, by decide, by decide +kernel⟩, by decide, by decide +kernel⟩
theorem d_Md_drift_0 : decode m_Md_drift.2.1 0 = .ok (.aload_n 0, 1) := by decide +kernel
theorem d_Md_drift_1 : decode m_Md_drift.2.1 1 = .ok (.iload_n 1, 1) := by decide +kernel
theorem d_Md_drift_2 : decode m_Md_drift.2.1 2 = .ok (.invokevirtual 313, 3) := by decide +kernel
theorem d_Md_drift_5 : decode m_Md_drift.2.1 5 = .ok (.ifCond .eq 23, 3) := by decide +kernel
theorem d_Md_drift_28 : decode m_Md_drift.2.1 28 = .ok (.aload_n 0, 1) := by decide +kernel
theorem d_Md_drift_29 : decode m_Md_drift.2.1 29 = .ok (.iconst 1, 1) := by decide +kernel
theorem d_Md_drift_30 : decode m_Md_drift.2.1 30 = .ok (.invokevirtual 125, 3) := by decide +kernel
theorem d_Md_drift_33 : decode m_Md_drift.2.1 33 = .ok (.ireturn, 1) := by decide +kernel
theorem d_Md_drift_8 : decode m_Md_drift.2.1 8 = .ok (.aload_n 0, 1) := by decide +kernel
theorem d_Md_drift_9 : decode m_Md_drift.2.1 9 = .ok (.iload_n 2, 1) := by decide +kernel
theorem d_Md_drift_10 : decode m_Md_drift.2.1 10 = .ok (.invokevirtual 313, 3) := by decide +kernel
theorem d_Md_drift_13 : decode m_Md_drift.2.1 13 = .ok (.ifCond .eq 15, 3) := by decide +kernel
theorem d_Md_drift_16 : decode m_Md_drift.2.1 16 = .ok (.iload_n 3, 1) := by decide +kernel
theorem d_Md_drift_17 : decode m_Md_drift.2.1 17 = .ok (.i2l, 1) := by decide +kernel
theorem d_Md_drift_18 : decode m_Md_drift.2.1 18 = .ok (.lconst 0, 1) := by decide +kernel
theorem d_Md_drift_19 : decode m_Md_drift.2.1 19 = .ok (.ldc2_w 370, 3) := by decide +kernel
theorem d_Md_drift_22 : decode m_Md_drift.2.1 22 = .ok (.invokestatic 372, 3) := by decide +kernel
theorem d_Md_drift_25 : decode m_Md_drift.2.1 25 = .ok (.ifCond .ne 9, 3) := by decide +kernel
theorem d_Md_drift_34 : decode m_Md_drift.2.1 34 = .ok (.iload_n 3, 1) := by decide +kernel
theorem d_Md_drift_35 : decode m_Md_drift.2.1 35 = .ok (.ifCond .le 18, 3) := by decide +kernel
theorem d_Md_drift_53 : decode m_Md_drift.2.1 53 = .ok (.aload_n 0, 1) := by decide +kernel
theorem d_Md_drift_54 : decode m_Md_drift.2.1 54 = .ok (.getfield 7, 3) := by decide +kernel
theorem d_Md_drift_57 : decode m_Md_drift.2.1 57 = .ok (.iconst 0, 1) := by decide +kernel
theorem d_Md_drift_58 : decode m_Md_drift.2.1 58 = .ok (.iaload, 1) := by decide +kernel
theorem d_Md_drift_59 : decode m_Md_drift.2.1 59 = .ok (.istore 4, 2) := by decide +kernel
theorem d_Md_drift_61 : decode m_Md_drift.2.1 61 = .ok (.lconst 1, 1) := by decide +kernel
theorem d_Md_drift_62 : decode m_Md_drift.2.1 62 = .ok (.lstore 5, 2) := by decide +kernel
theorem d_Md_drift_64 : decode m_Md_drift.2.1 64 = .ok (.iconst 0, 1) := by decide +kernel
theorem d_Md_drift_65 : decode m_Md_drift.2.1 65 = .ok (.istore 7, 2) := by decide +kernel
theorem d_Md_drift_38 : decode m_Md_drift.2.1 38 = .ok (.aload_n 0, 1) := by decide +kernel
theorem d_Md_drift_39 : decode m_Md_drift.2.1 39 = .ok (.iconst 0, 1) := by decide +kernel
theorem d_Md_drift_40 : decode m_Md_drift.2.1 40 = .ok (.invokevirtual 260, 3) := by decide +kernel
theorem d_Md_drift_43 : decode m_Md_drift.2.1 43 = .ok (.ifCond .ne 10, 3) := by decide +kernel
theorem d_Md_drift_46 : decode m_Md_drift.2.1 46 = .ok (.aload_n 0, 1) := by decide +kernel
theorem d_Md_drift_47 : decode m_Md_drift.2.1 47 = .ok (.bipush 6, 2) := by decide +kernel
theorem d_Md_drift_49 : decode m_Md_drift.2.1 49 = .ok (.invokevirtual 125, 3) := by decide +kernel
theorem d_Md_drift_52 : decode m_Md_drift.2.1 52 = .ok (.ireturn, 1) := by decide +kernel
theorem d_Md_drift_67 : decode m_Md_drift.2.1 67 = .ok (.iload 7, 2) := by decide +kernel
theorem d_Md_drift_69 : decode m_Md_drift.2.1 69 = .ok (.iload 4, 2) := by decide +kernel
theorem d_Md_drift_71 : decode m_Md_drift.2.1 71 = .ok (.if_icmp .ge 31, 3) := by decide +kernel
theorem d_Md_drift_102 : decode m_Md_drift.2.1 102 = .ok (.iconst 0, 1) := by decide +kernel
theorem d_Md_drift_103 : decode m_Md_drift.2.1 103 = .ok (.istore 7, 2) := by decide +kernel
theorem d_Md_drift_74 : decode m_Md_drift.2.1 74 = .ok (.aload_n 0, 1) := by decide +kernel
theorem d_Md_drift_75 : decode m_Md_drift.2.1 75 = .ok (.getfield 93, 3) := by decide +kernel
theorem f_Md_93 : aw_F "MaypoleGreenModel" 93 11 43 true := ⟨cR11, cT11, 52, fun k => cY11.getD k .int, rfl, ci11, cy11, cn11, rfl, by decide, aw_in 1298 (by decide +kernel) rfl, rfl, rfl, rfl⟩
theorem d_Md_drift_78 : decode m_Md_drift.2.1 78 = .ok (.iload 7, 2) := by decide +kernel
theorem d_Md_drift_80 : decode m_Md_drift.2.1 80 = .ok (.iload 7, 2) := by decide +kernel
theorem d_Md_drift_82 : decode m_Md_drift.2.1 82 = .ok (.aload_n 0, 1) := by decide +kernel
theorem d_Md_drift_83 : decode m_Md_drift.2.1 83 = .ok (.iload_n 1, 1) := by decide +kernel
theorem d_Md_drift_84 : decode m_Md_drift.2.1 84 = .ok (.invokevirtual 337, 3) := by decide +kernel
theorem d_Md_drift_87 : decode m_Md_drift.2.1 87 = .ok (.if_icmp .ne 7, 3) := by decide +kernel
theorem d_Md_drift_94 : decode m_Md_drift.2.1 94 = .ok (.lconst 0, 1) := by decide +kernel
theorem d_Md_drift_95 : decode m_Md_drift.2.1 95 = .ok (.lastore, 1) := by decide +kernel
theorem d_Md_drift_96 : decode m_Md_drift.2.1 96 = .ok (.iinc 7 1, 3) := by decide +kernel
theorem d_Md_drift_99 : decode m_Md_drift.2.1 99 = .ok (.goto (-32), 3) := by decide +kernel
theorem d_Md_drift_90 : decode m_Md_drift.2.1 90 = .ok (.lconst 1, 1) := by decide +kernel
theorem d_Md_drift_91 : decode m_Md_drift.2.1 91 = .ok (.goto 4, 3) := by decide +kernel
theorem d_Md_drift_105 : decode m_Md_drift.2.1 105 = .ok (.iload 7, 2) := by decide +kernel
theorem d_Md_drift_107 : decode m_Md_drift.2.1 107 = .ok (.iload_n 3, 1) := by decide +kernel
theorem d_Md_drift_108 : decode m_Md_drift.2.1 108 = .ok (.if_icmp .ge 159, 3) := by decide +kernel
theorem d_Md_drift_267 : decode m_Md_drift.2.1 267 = .ok (.aload_n 0, 1) := by decide +kernel
theorem d_Md_drift_268 : decode m_Md_drift.2.1 268 = .ok (.aload_n 0, 1) := by decide +kernel
theorem d_Md_drift_269 : decode m_Md_drift.2.1 269 = .ok (.getfield 93, 3) := by decide +kernel
theorem d_Md_drift_272 : decode m_Md_drift.2.1 272 = .ok (.iload_n 2, 1) := by decide +kernel
theorem d_Md_drift_273 : decode m_Md_drift.2.1 273 = .ok (.laload, 1) := by decide +kernel
theorem d_Md_drift_274 : decode m_Md_drift.2.1 274 = .ok (.lload 5, 2) := by decide +kernel
theorem d_Md_drift_276 : decode m_Md_drift.2.1 276 = .ok (.invokevirtual 479, 3) := by decide +kernel
theorem d_Md_drift_279 : decode m_Md_drift.2.1 279 = .ok (.ireturn, 1) := by decide +kernel
theorem d_Md_drift_111 : decode m_Md_drift.2.1 111 = .ok (.iconst 0, 1) := by decide +kernel
theorem d_Md_drift_112 : decode m_Md_drift.2.1 112 = .ok (.istore 8, 2) := by decide +kernel
theorem d_Md_drift_114 : decode m_Md_drift.2.1 114 = .ok (.iload 8, 2) := by decide +kernel
theorem d_Md_drift_116 : decode m_Md_drift.2.1 116 = .ok (.iload 4, 2) := by decide +kernel
theorem d_Md_drift_118 : decode m_Md_drift.2.1 118 = .ok (.if_icmp .ge 17, 3) := by decide +kernel
theorem d_Md_drift_135 : decode m_Md_drift.2.1 135 = .ok (.iconst 0, 1) := by decide +kernel
theorem d_Md_drift_136 : decode m_Md_drift.2.1 136 = .ok (.istore 8, 2) := by decide +kernel
theorem d_Md_drift_121 : decode m_Md_drift.2.1 121 = .ok (.aload_n 0, 1) := by decide +kernel
theorem d_Md_drift_122 : decode m_Md_drift.2.1 122 = .ok (.getfield 96, 3) := by decide +kernel
theorem f_Md_96 : aw_F "MaypoleGreenModel" 96 11 44 true := ⟨cR11, cT11, 52, fun k => cY11.getD k .int, rfl, ci11, cy11, cn11, rfl, by decide, aw_in 1299 (by decide +kernel) rfl, rfl, rfl, rfl⟩
theorem d_Md_drift_125 : decode m_Md_drift.2.1 125 = .ok (.iload 8, 2) := by decide +kernel
theorem d_Md_drift_127 : decode m_Md_drift.2.1 127 = .ok (.lconst 0, 1) := by decide +kernel
theorem d_Md_drift_128 : decode m_Md_drift.2.1 128 = .ok (.lastore, 1) := by decide +kernel
theorem d_Md_drift_129 : decode m_Md_drift.2.1 129 = .ok (.iinc 8 1, 3) := by decide +kernel
theorem d_Md_drift_132 : decode m_Md_drift.2.1 132 = .ok (.goto (-18), 3) := by decide +kernel
theorem d_Md_drift_138 : decode m_Md_drift.2.1 138 = .ok (.iload 8, 2) := by decide +kernel
theorem d_Md_drift_140 : decode m_Md_drift.2.1 140 = .ok (.aload_n 0, 1) := by decide +kernel
theorem d_Md_drift_141 : decode m_Md_drift.2.1 141 = .ok (.iconst 0, 1) := by decide +kernel
theorem d_Md_drift_142 : decode m_Md_drift.2.1 142 = .ok (.invokevirtual 260, 3) := by decide +kernel
theorem d_Md_drift_145 : decode m_Md_drift.2.1 145 = .ok (.if_icmp .ge 75, 3) := by decide +kernel
theorem d_Md_drift_220 : decode m_Md_drift.2.1 220 = .ok (.iconst 0, 1) := by decide +kernel
theorem d_Md_drift_221 : decode m_Md_drift.2.1 221 = .ok (.istore 8, 2) := by decide +kernel
theorem d_Md_drift_148 : decode m_Md_drift.2.1 148 = .ok (.iload 8, 2) := by decide +kernel
theorem d_Md_drift_150 : decode m_Md_drift.2.1 150 = .ok (.iconst 1, 1) := by decide +kernel
theorem d_Md_drift_151 : decode m_Md_drift.2.1 151 = .ok (.iadd, 1) := by decide +kernel
theorem d_Md_drift_152 : decode m_Md_drift.2.1 152 = .ok (.iload 4, 2) := by decide +kernel
theorem d_Md_drift_154 : decode m_Md_drift.2.1 154 = .ok (.irem, 1) := by decide +kernel
theorem d_Md_drift_155 : decode m_Md_drift.2.1 155 = .ok (.istore 9, 2) := by decide +kernel
theorem d_Md_drift_157 : decode m_Md_drift.2.1 157 = .ok (.iconst 0, 1) := by decide +kernel
theorem d_Md_drift_158 : decode m_Md_drift.2.1 158 = .ok (.istore 10, 2) := by decide +kernel
theorem d_Md_drift_223 : decode m_Md_drift.2.1 223 = .ok (.iload 8, 2) := by decide +kernel
theorem d_Md_drift_225 : decode m_Md_drift.2.1 225 = .ok (.iload 4, 2) := by decide +kernel
theorem d_Md_drift_227 : decode m_Md_drift.2.1 227 = .ok (.if_icmp .ge 23, 3) := by decide +kernel
theorem d_Md_drift_250 : decode m_Md_drift.2.1 250 = .ok (.lload 5, 2) := by decide +kernel
theorem d_Md_drift_252 : decode m_Md_drift.2.1 252 = .ok (.aload_n 0, 1) := by decide +kernel
theorem d_Md_drift_253 : decode m_Md_drift.2.1 253 = .ok (.iconst 0, 1) := by decide +kernel
theorem d_Md_drift_254 : decode m_Md_drift.2.1 254 = .ok (.invokevirtual 260, 3) := by decide +kernel
theorem d_Md_drift_257 : decode m_Md_drift.2.1 257 = .ok (.i2l, 1) := by decide +kernel
theorem d_Md_drift_258 : decode m_Md_drift.2.1 258 = .ok (.lmul, 1) := by decide +kernel
theorem d_Md_drift_259 : decode m_Md_drift.2.1 259 = .ok (.lstore 5, 2) := by decide +kernel
theorem d_Md_drift_261 : decode m_Md_drift.2.1 261 = .ok (.iinc 7 1, 3) := by decide +kernel
theorem d_Md_drift_264 : decode m_Md_drift.2.1 264 = .ok (.goto (-159), 3) := by decide +kernel
theorem d_Md_drift_230 : decode m_Md_drift.2.1 230 = .ok (.aload_n 0, 1) := by decide +kernel
theorem d_Md_drift_231 : decode m_Md_drift.2.1 231 = .ok (.getfield 93, 3) := by decide +kernel
theorem d_Md_drift_234 : decode m_Md_drift.2.1 234 = .ok (.iload 8, 2) := by decide +kernel
theorem d_Md_drift_236 : decode m_Md_drift.2.1 236 = .ok (.aload_n 0, 1) := by decide +kernel
theorem d_Md_drift_237 : decode m_Md_drift.2.1 237 = .ok (.getfield 96, 3) := by decide +kernel
theorem d_Md_drift_240 : decode m_Md_drift.2.1 240 = .ok (.iload 8, 2) := by decide +kernel
theorem d_Md_drift_242 : decode m_Md_drift.2.1 242 = .ok (.laload, 1) := by decide +kernel
theorem d_Md_drift_243 : decode m_Md_drift.2.1 243 = .ok (.lastore, 1) := by decide +kernel
theorem d_Md_drift_244 : decode m_Md_drift.2.1 244 = .ok (.iinc 8 1, 3) := by decide +kernel
theorem d_Md_drift_247 : decode m_Md_drift.2.1 247 = .ok (.goto (-24), 3) := by decide +kernel
theorem d_Md_drift_160 : decode m_Md_drift.2.1 160 = .ok (.iload 10, 2) := by decide +kernel
theorem d_Md_drift_162 : decode m_Md_drift.2.1 162 = .ok (.iload 4, 2) := by decide +kernel
theorem d_Md_drift_164 : decode m_Md_drift.2.1 164 = .ok (.if_icmp .ge 50, 3) := by decide +kernel
theorem d_Md_drift_214 : decode m_Md_drift.2.1 214 = .ok (.iinc 8 1, 3) := by decide +kernel
theorem d_Md_drift_217 : decode m_Md_drift.2.1 217 = .ok (.goto (-79), 3) := by decide +kernel
theorem d_Md_drift_167 : decode m_Md_drift.2.1 167 = .ok (.aload_n 0, 1) := by decide +kernel
theorem d_Md_drift_168 : decode m_Md_drift.2.1 168 = .ok (.getfield 96, 3) := by decide +kernel
theorem d_Md_drift_171 : decode m_Md_drift.2.1 171 = .ok (.iload 10, 2) := by decide +kernel
theorem d_Md_drift_173 : decode m_Md_drift.2.1 173 = .ok (.iload 8, 2) := by decide +kernel
theorem d_Md_drift_175 : decode m_Md_drift.2.1 175 = .ok (.if_icmp .ne 8, 3) := by decide +kernel
theorem d_Md_drift_183 : decode m_Md_drift.2.1 183 = .ok (.iload 10, 2) := by decide +kernel
theorem d_Md_drift_185 : decode m_Md_drift.2.1 185 = .ok (.iload 9, 2) := by decide +kernel
theorem d_Md_drift_187 : decode m_Md_drift.2.1 187 = .ok (.if_icmp .ne 8, 3) := by decide +kernel
theorem d_Md_drift_195 : decode m_Md_drift.2.1 195 = .ok (.iload 10, 2) := by decide +kernel
theorem d_Md_drift_197 : decode m_Md_drift.2.1 197 = .ok (.dup2, 1) := by decide +kernel
theorem d_Md_drift_198 : decode m_Md_drift.2.1 198 = .ok (.laload, 1) := by decide +kernel
theorem d_Md_drift_199 : decode m_Md_drift.2.1 199 = .ok (.aload_n 0, 1) := by decide +kernel
theorem d_Md_drift_200 : decode m_Md_drift.2.1 200 = .ok (.getfield 93, 3) := by decide +kernel
theorem d_Md_drift_203 : decode m_Md_drift.2.1 203 = .ok (.iload 10, 2) := by decide +kernel
theorem d_Md_drift_205 : decode m_Md_drift.2.1 205 = .ok (.laload, 1) := by decide +kernel
theorem d_Md_drift_206 : decode m_Md_drift.2.1 206 = .ok (.ladd, 1) := by decide +kernel
theorem d_Md_drift_207 : decode m_Md_drift.2.1 207 = .ok (.lastore, 1) := by decide +kernel
theorem d_Md_drift_208 : decode m_Md_drift.2.1 208 = .ok (.iinc 10 1, 3) := by decide +kernel
theorem d_Md_drift_211 : decode m_Md_drift.2.1 211 = .ok (.goto (-51), 3) := by decide +kernel
theorem d_Md_drift_190 : decode m_Md_drift.2.1 190 = .ok (.iload 8, 2) := by decide +kernel
theorem d_Md_drift_192 : decode m_Md_drift.2.1 192 = .ok (.goto 5, 3) := by decide +kernel
theorem d_Md_drift_178 : decode m_Md_drift.2.1 178 = .ok (.iload 9, 2) := by decide +kernel
theorem d_Md_drift_180 : decode m_Md_drift.2.1 180 = .ok (.goto 17, 3) := by decide +kernel
