theorem d_Md_wrongDance_0 : decode m_Md_wrongDance.2.1 0 = .ok (.iload_n 1, 1) := by decide +kernel
theorem d_Md_wrongDance_1 : decode m_Md_wrongDance.2.1 1 = .ok (.invokestatic 129, 3) := by decide +kernel
theorem d_Md_wrongDance_4 : decode m_Md_wrongDance.2.1 4 = .ok (.ifCond .eq 15, 3) := by decide +kernel
theorem d_Md_wrongDance_19 : decode m_Md_wrongDance.2.1 19 = .ok (.iconst 1, 1) := by decide +kernel
theorem d_Md_wrongDance_20 : decode m_Md_wrongDance.2.1 20 = .ok (.ireturn, 1) := by decide +kernel
theorem d_Md_wrongDance_7 : decode m_Md_wrongDance.2.1 7 = .ok (.iload_n 2, 1) := by decide +kernel
theorem d_Md_wrongDance_8 : decode m_Md_wrongDance.2.1 8 = .ok (.i2l, 1) := by decide +kernel
theorem d_Md_wrongDance_9 : decode m_Md_wrongDance.2.1 9 = .ok (.lconst 0, 1) := by decide +kernel
theorem d_Md_wrongDance_10 : decode m_Md_wrongDance.2.1 10 = .ok (.ldc2_w 384, 3) := by decide +kernel
theorem d_Md_wrongDance_13 : decode m_Md_wrongDance.2.1 13 = .ok (.invokestatic 372, 3) := by decide +kernel
theorem d_Md_wrongDance_16 : decode m_Md_wrongDance.2.1 16 = .ok (.ifCond .ne 5, 3) := by decide +kernel
theorem d_Md_wrongDance_21 : decode m_Md_wrongDance.2.1 21 = .ok (.aload_n 0, 1) := by decide +kernel
theorem d_Md_wrongDance_22 : decode m_Md_wrongDance.2.1 22 = .ok (.getfield 24, 3) := by decide +kernel
theorem d_Md_wrongDance_25 : decode m_Md_wrongDance.2.1 25 = .ok (.iload_n 1, 1) := by decide +kernel
theorem d_Md_wrongDance_26 : decode m_Md_wrongDance.2.1 26 = .ok (.iaload, 1) := by decide +kernel
theorem d_Md_wrongDance_27 : decode m_Md_wrongDance.2.1 27 = .ok (.iconst (-1), 1) := by decide +kernel
theorem d_Md_wrongDance_28 : decode m_Md_wrongDance.2.1 28 = .ok (.if_icmp .ne 5, 3) := by decide +kernel
theorem d_Md_wrongDance_33 : decode m_Md_wrongDance.2.1 33 = .ok (.aload_n 0, 1) := by decide +kernel
theorem d_Md_wrongDance_34 : decode m_Md_wrongDance.2.1 34 = .ok (.getfield 24, 3) := by decide +kernel
theorem d_Md_wrongDance_37 : decode m_Md_wrongDance.2.1 37 = .ok (.iload_n 1, 1) := by decide +kernel
theorem d_Md_wrongDance_38 : decode m_Md_wrongDance.2.1 38 = .ok (.iaload, 1) := by decide +kernel
theorem d_Md_wrongDance_39 : decode m_Md_wrongDance.2.1 39 = .ok (.iload_n 2, 1) := by decide +kernel
theorem d_Md_wrongDance_40 : decode m_Md_wrongDance.2.1 40 = .ok (.if_icmp .ge 5, 3) := by decide +kernel
theorem d_Md_wrongDance_45 : decode m_Md_wrongDance.2.1 45 = .ok (.iconst 0, 1) := by decide +kernel
theorem d_Md_wrongDance_46 : decode m_Md_wrongDance.2.1 46 = .ok (.istore_n 3, 1) := by decide +kernel
theorem d_Md_wrongDance_43 : decode m_Md_wrongDance.2.1 43 = .ok (.iconst 3, 1) := by decide +kernel
theorem d_Md_wrongDance_44 : decode m_Md_wrongDance.2.1 44 = .ok (.ireturn, 1) := by decide +kernel
theorem d_Md_wrongDance_31 : decode m_Md_wrongDance.2.1 31 = .ok (.iconst 2, 1) := by decide +kernel
theorem d_Md_wrongDance_32 : decode m_Md_wrongDance.2.1 32 = .ok (.ireturn, 1) := by decide +kernel
theorem d_Md_wrongDance_47 : decode m_Md_wrongDance.2.1 47 = .ok (.iload_n 3, 1) := by decide +kernel
theorem d_Md_wrongDance_48 : decode m_Md_wrongDance.2.1 48 = .ok (.iload_n 2, 1) := by decide +kernel
theorem d_Md_wrongDance_49 : decode m_Md_wrongDance.2.1 49 = .ok (.if_icmp .ge 41, 3) := by decide +kernel
theorem d_Md_wrongDance_90 : decode m_Md_wrongDance.2.1 90 = .ok (.iconst 0, 1) := by decide +kernel
theorem d_Md_wrongDance_91 : decode m_Md_wrongDance.2.1 91 = .ok (.ireturn, 1) := by decide +kernel
theorem d_Md_wrongDance_52 : decode m_Md_wrongDance.2.1 52 = .ok (.aload_n 0, 1) := by decide +kernel
theorem d_Md_wrongDance_53 : decode m_Md_wrongDance.2.1 53 = .ok (.getfield 27, 3) := by decide +kernel
theorem d_Md_wrongDance_56 : decode m_Md_wrongDance.2.1 56 = .ok (.bipush 60, 2) := by decide +kernel
theorem d_Md_wrongDance_58 : decode m_Md_wrongDance.2.1 58 = .ok (.iload_n 1, 1) := by decide +kernel
theorem d_Md_wrongDance_59 : decode m_Md_wrongDance.2.1 59 = .ok (.imul, 1) := by decide +kernel
theorem d_Md_wrongDance_60 : decode m_Md_wrongDance.2.1 60 = .ok (.iload_n 3, 1) := by decide +kernel
theorem d_Md_wrongDance_61 : decode m_Md_wrongDance.2.1 61 = .ok (.iadd, 1) := by decide +kernel
theorem d_Md_wrongDance_62 : decode m_Md_wrongDance.2.1 62 = .ok (.laload, 1) := by decide +kernel
theorem d_Md_wrongDance_63 : decode m_Md_wrongDance.2.1 63 = .ok (.lconst 0, 1) := by decide +kernel
theorem d_Md_wrongDance_64 : decode m_Md_wrongDance.2.1 64 = .ok (.ldc2_w 405, 3) := by decide +kernel
theorem cl_Md_405 : Cond.constantLong "MaypoleGreenModel" 405 (2) ∈ aw_T := aw_in 1807 (by decide +kernel) rfl
theorem d_Md_wrongDance_67 : decode m_Md_wrongDance.2.1 67 = .ok (.aload_n 0, 1) := by decide +kernel
theorem d_Md_wrongDance_68 : decode m_Md_wrongDance.2.1 68 = .ok (.iconst 0, 1) := by decide +kernel
theorem d_Md_wrongDance_69 : decode m_Md_wrongDance.2.1 69 = .ok (.invokevirtual 260, 3) := by decide +kernel
theorem d_Md_wrongDance_72 : decode m_Md_wrongDance.2.1 72 = .ok (.i2l, 1) := by decide +kernel
theorem d_Md_wrongDance_73 : decode m_Md_wrongDance.2.1 73 = .ok (.lmul, 1) := by decide +kernel
theorem d_Md_wrongDance_74 : decode m_Md_wrongDance.2.1 74 = .ok (.lconst 1, 1) := by decide +kernel
theorem d_Md_wrongDance_75 : decode m_Md_wrongDance.2.1 75 = .ok (.lsub, 1) := by decide +kernel
theorem d_Md_wrongDance_76 : decode m_Md_wrongDance.2.1 76 = .ok (.invokestatic 372, 3) := by decide +kernel
theorem d_Md_wrongDance_79 : decode m_Md_wrongDance.2.1 79 = .ok (.ifCond .ne 5, 3) := by decide +kernel
theorem d_Md_wrongDance_84 : decode m_Md_wrongDance.2.1 84 = .ok (.iinc 3 1, 3) := by decide +kernel
theorem d_Md_wrongDance_87 : decode m_Md_wrongDance.2.1 87 = .ok (.goto (-40), 3) := by decide +kernel
theorem d_Md_wrongDance_82 : decode m_Md_wrongDance.2.1 82 = .ok (.iconst 5, 1) := by decide +kernel
theorem d_Md_wrongDance_83 : decode m_Md_wrongDance.2.1 83 = .ok (.ireturn, 1) := by decide +kernel
theorem d_Md_laysDance_0 : decode m_Md_laysDance.2.1 0 = .ok (.aload_n 0, 1) := by decide +kernel
theorem d_Md_laysDance_1 : decode m_Md_laysDance.2.1 1 = .ok (.iconst 0, 1) := by decide +kernel
theorem d_Md_laysDance_2 : decode m_Md_laysDance.2.1 2 = .ok (.putfield 407, 3) := by decide +kernel
theorem f_Md_407 : aw_F "MaypoleGreenModel" 407 11 33 false := ⟨cR11, cT11, 52, fun k => cY11.getD k .int, rfl, ci11, cy11, cn11, rfl, by decide, aw_in 1287 (by decide +kernel) rfl, rfl, rfl, rfl⟩
theorem d_Md_laysDance_5 : decode m_Md_laysDance.2.1 5 = .ok (.iconst 0, 1) := by decide +kernel
theorem d_Md_laysDance_6 : decode m_Md_laysDance.2.1 6 = .ok (.istore 4, 2) := by decide +kernel
theorem d_Md_laysDance_8 : decode m_Md_laysDance.2.1 8 = .ok (.iload 4, 2) := by decide +kernel
theorem d_Md_laysDance_10 : decode m_Md_laysDance.2.1 10 = .ok (.iload_n 2, 1) := by decide +kernel
theorem d_Md_laysDance_11 : decode m_Md_laysDance.2.1 11 = .ok (.if_icmp .ge 51, 3) := by decide +kernel
theorem d_Md_laysDance_62 : decode m_Md_laysDance.2.1 62 = .ok (.return_, 1) := by decide +kernel
theorem d_Md_laysDance_14 : decode m_Md_laysDance.2.1 14 = .ok (.aload_n 0, 1) := by decide +kernel
theorem d_Md_laysDance_15 : decode m_Md_laysDance.2.1 15 = .ok (.getfield 27, 3) := by decide +kernel
theorem d_Md_laysDance_18 : decode m_Md_laysDance.2.1 18 = .ok (.bipush 60, 2) := by decide +kernel
theorem d_Md_laysDance_20 : decode m_Md_laysDance.2.1 20 = .ok (.iload_n 1, 1) := by decide +kernel
theorem d_Md_laysDance_21 : decode m_Md_laysDance.2.1 21 = .ok (.imul, 1) := by decide +kernel
theorem d_Md_laysDance_22 : decode m_Md_laysDance.2.1 22 = .ok (.iload 4, 2) := by decide +kernel
theorem d_Md_laysDance_24 : decode m_Md_laysDance.2.1 24 = .ok (.iadd, 1) := by decide +kernel
theorem d_Md_laysDance_25 : decode m_Md_laysDance.2.1 25 = .ok (.laload, 1) := by decide +kernel
theorem d_Md_laysDance_26 : decode m_Md_laysDance.2.1 26 = .ok (.l2i, 1) := by decide +kernel
theorem d_Md_laysDance_27 : decode m_Md_laysDance.2.1 27 = .ok (.istore 5, 2) := by decide +kernel
theorem d_Md_laysDance_29 : decode m_Md_laysDance.2.1 29 = .ok (.aload_n 0, 1) := by decide +kernel
theorem d_Md_laysDance_30 : decode m_Md_laysDance.2.1 30 = .ok (.iload 5, 2) := by decide +kernel
theorem d_Md_laysDance_32 : decode m_Md_laysDance.2.1 32 = .ok (.iconst 2, 1) := by decide +kernel
theorem d_Md_laysDance_33 : decode m_Md_laysDance.2.1 33 = .ok (.idiv, 1) := by decide +kernel
theorem d_Md_laysDance_34 : decode m_Md_laysDance.2.1 34 = .ok (.iload 4, 2) := by decide +kernel
theorem d_Md_laysDance_36 : decode m_Md_laysDance.2.1 36 = .ok (.iload_n 3, 1) := by decide +kernel
theorem d_Md_laysDance_37 : decode m_Md_laysDance.2.1 37 = .ok (.if_icmp .ne 12, 3) := by decide +kernel
theorem d_Md_laysDance_49 : decode m_Md_laysDance.2.1 49 = .ok (.iload 5, 2) := by decide +kernel
theorem d_Md_laysDance_51 : decode m_Md_laysDance.2.1 51 = .ok (.iconst 2, 1) := by decide +kernel
theorem d_Md_laysDance_52 : decode m_Md_laysDance.2.1 52 = .ok (.irem, 1) := by decide +kernel
theorem d_Md_laysDance_53 : decode m_Md_laysDance.2.1 53 = .ok (.invokevirtual 410, 3) := by decide +kernel
abbrev m_Md_addsDance : aw_MI := (⟨"MaypoleGreenModel", "addsDance", "(II)V"⟩, prog_14_method_102_code, 6, none)
theorem lk_Md_410 : Cond.methodLink "MaypoleGreenModel" 410 m_Md_addsDance.1 ∈ aw_T := aw_in 1812 (by decide +kernel) rfl
theorem k_Md_addsDance : aw_K m_Md_addsDance 2 := ⟨aw_in 1815 (by decide +kernel) rfl, aw_in 16 (by decide +kernel) rfl, ⟨by decide, by decide, by decide +kernel⟩, by decide, by decide +kernel⟩
theorem in_Md_addsDance : Cond.instanceMethod m_Md_addsDance.1 ∈ aw_T := aw_in 1814 (by decide +kernel) rfl
theorem se_Md_addsDance : Cond.selects m_Md_addsDance.1.cls m_Md_addsDance.1 m_Md_addsDance.1 ∈ aw_T := aw_inP 118 (by decide +kernel) rfl
theorem d_Md_laysDance_56 : decode m_Md_laysDance.2.1 56 = .ok (.iinc 4 1, 3) := by decide +kernel
theorem d_Md_laysDance_59 : decode m_Md_laysDance.2.1 59 = .ok (.goto (-51), 3) := by decide +kernel
theorem d_Md_laysDance_40 : decode m_Md_laysDance.2.1 40 = .ok (.iconst 1, 1) := by decide +kernel
theorem d_Md_laysDance_41 : decode m_Md_laysDance.2.1 41 = .ok (.iload 5, 2) := by decide +kernel
theorem d_Md_laysDance_43 : decode m_Md_laysDance.2.1 43 = .ok (.iconst 2, 1) := by decide +kernel
theorem d_Md_laysDance_44 : decode m_Md_laysDance.2.1 44 = .ok (.irem, 1) := by decide +kernel
theorem d_Md_laysDance_45 : decode m_Md_laysDance.2.1 45 = .ok (.isub, 1) := by decide +kernel
theorem d_Md_laysDance_46 : decode m_Md_laysDance.2.1 46 = .ok (.goto 7, 3) := by decide +kernel
theorem d_Md_addsDance_0 : decode m_Md_addsDance.2.1 0 = .ok (.iconst (-1), 1) := by decide +kernel
theorem d_Md_addsDance_1 : decode m_Md_addsDance.2.1 1 = .ok (.istore_n 3, 1) := by decide +kernel
theorem d_Md_addsDance_2 : decode m_Md_addsDance.2.1 2 = .ok (.iconst 0, 1) := by decide +kernel
theorem d_Md_addsDance_3 : decode m_Md_addsDance.2.1 3 = .ok (.istore 4, 2) := by decide +kernel
theorem d_Md_addsDance_5 : decode m_Md_addsDance.2.1 5 = .ok (.iload 4, 2) := by decide +kernel
theorem d_Md_addsDance_7 : decode m_Md_addsDance.2.1 7 = .ok (.aload_n 0, 1) := by decide +kernel
theorem d_Md_addsDance_8 : decode m_Md_addsDance.2.1 8 = .ok (.getfield 407, 3) := by decide +kernel
theorem d_Md_addsDance_11 : decode m_Md_addsDance.2.1 11 = .ok (.if_icmp .ge 23, 3) := by decide +kernel
theorem d_Md_addsDance_34 : decode m_Md_addsDance.2.1 34 = .ok (.iload_n 3, 1) := by decide +kernel
theorem d_Md_addsDance_35 : decode m_Md_addsDance.2.1 35 = .ok (.iconst (-1), 1) := by decide +kernel
theorem d_Md_addsDance_36 : decode m_Md_addsDance.2.1 36 = .ok (.if_icmp .eq 17, 3) := by decide +kernel
theorem d_Md_addsDance_53 : decode m_Md_addsDance.2.1 53 = .ok (.iconst 0, 1) := by decide +kernel
theorem d_Md_addsDance_54 : decode m_Md_addsDance.2.1 54 = .ok (.istore 4, 2) := by decide +kernel
theorem d_Md_addsDance_56 : decode m_Md_addsDance.2.1 56 = .ok (.iload_n 3, 1) := by decide +kernel
theorem d_Md_addsDance_57 : decode m_Md_addsDance.2.1 57 = .ok (.iconst 1, 1) := by decide +kernel
theorem d_Md_addsDance_58 : decode m_Md_addsDance.2.1 58 = .ok (.iadd, 1) := by decide +kernel
theorem d_Md_addsDance_59 : decode m_Md_addsDance.2.1 59 = .ok (.istore 5, 2) := by decide +kernel
theorem d_Md_addsDance_39 : decode m_Md_addsDance.2.1 39 = .ok (.aload_n 0, 1) := by decide +kernel
theorem d_Md_addsDance_40 : decode m_Md_addsDance.2.1 40 = .ok (.getfield 66, 3) := by decide +kernel
theorem f_Md_66 : aw_F "MaypoleGreenModel" 66 11 32 true := ⟨cR11, cT11, 52, fun k => cY11.getD k .int, rfl, ci11, cy11, cn11, rfl, by decide, aw_in 1286 (by decide +kernel) rfl, rfl, rfl, rfl⟩
theorem d_Md_addsDance_43 : decode m_Md_addsDance.2.1 43 = .ok (.iload_n 3, 1) := by decide +kernel
theorem d_Md_addsDance_44 : decode m_Md_addsDance.2.1 44 = .ok (.iaload, 1) := by decide +kernel
theorem d_Md_addsDance_45 : decode m_Md_addsDance.2.1 45 = .ok (.iload_n 2, 1) := by decide +kernel
theorem d_Md_addsDance_46 : decode m_Md_addsDance.2.1 46 = .ok (.if_icmp .eq 7, 3) := by decide +kernel
theorem d_Md_addsDance_49 : decode m_Md_addsDance.2.1 49 = .ok (.iconst 1, 1) := by decide +kernel
theorem d_Md_addsDance_50 : decode m_Md_addsDance.2.1 50 = .ok (.goto 4, 3) := by decide +kernel
theorem d_Md_addsDance_14 : decode m_Md_addsDance.2.1 14 = .ok (.aload_n 0, 1) := by decide +kernel
theorem d_Md_addsDance_15 : decode m_Md_addsDance.2.1 15 = .ok (.getfield 63, 3) := by decide +kernel
theorem f_Md_63 : aw_F "MaypoleGreenModel" 63 11 31 true := ⟨cR11, cT11, 52, fun k => cY11.getD k .int, rfl, ci11, cy11, cn11, rfl, by decide, aw_in 1285 (by decide +kernel) rfl, rfl, rfl, rfl⟩
theorem d_Md_addsDance_18 : decode m_Md_addsDance.2.1 18 = .ok (.iload 4, 2) := by decide +kernel
theorem d_Md_addsDance_20 : decode m_Md_addsDance.2.1 20 = .ok (.iaload, 1) := by decide +kernel
theorem d_Md_addsDance_21 : decode m_Md_addsDance.2.1 21 = .ok (.iload_n 1, 1) := by decide +kernel
theorem d_Md_addsDance_22 : decode m_Md_addsDance.2.1 22 = .ok (.if_icmp .ne 6, 3) := by decide +kernel
theorem d_Md_addsDance_28 : decode m_Md_addsDance.2.1 28 = .ok (.iinc 4 1, 3) := by decide +kernel
theorem d_Md_addsDance_31 : decode m_Md_addsDance.2.1 31 = .ok (.goto (-26), 3) := by decide +kernel
theorem d_Md_addsDance_25 : decode m_Md_addsDance.2.1 25 = .ok (.iload 4, 2) := by decide +kernel
theorem d_Md_addsDance_27 : decode m_Md_addsDance.2.1 27 = .ok (.istore_n 3, 1) := by decide +kernel
theorem d_Md_addsDance_61 : decode m_Md_addsDance.2.1 61 = .ok (.iload 5, 2) := by decide +kernel
theorem d_Md_addsDance_63 : decode m_Md_addsDance.2.1 63 = .ok (.aload_n 0, 1) := by decide +kernel
theorem d_Md_addsDance_64 : decode m_Md_addsDance.2.1 64 = .ok (.getfield 407, 3) := by decide +kernel
theorem d_Md_addsDance_67 : decode m_Md_addsDance.2.1 67 = .ok (.if_icmp .ge 37, 3) := by decide +kernel
theorem d_Md_addsDance_104 : decode m_Md_addsDance.2.1 104 = .ok (.iload 4, 2) := by decide +kernel
theorem d_Md_addsDance_106 : decode m_Md_addsDance.2.1 106 = .ok (.ifCond .ne 34, 3) := by decide +kernel
theorem d_Md_addsDance_140 : decode m_Md_addsDance.2.1 140 = .ok (.aload_n 0, 1) := by decide +kernel
theorem d_Md_addsDance_141 : decode m_Md_addsDance.2.1 141 = .ok (.dup, 1) := by decide +kernel
theorem d_Md_addsDance_142 : decode m_Md_addsDance.2.1 142 = .ok (.getfield 407, 3) := by decide +kernel
theorem d_Md_addsDance_145 : decode m_Md_addsDance.2.1 145 = .ok (.iconst 1, 1) := by decide +kernel
theorem d_Md_addsDance_146 : decode m_Md_addsDance.2.1 146 = .ok (.isub, 1) := by decide +kernel
theorem d_Md_addsDance_147 : decode m_Md_addsDance.2.1 147 = .ok (.putfield 407, 3) := by decide +kernel
theorem d_Md_addsDance_150 : decode m_Md_addsDance.2.1 150 = .ok (.iload_n 3, 1) := by decide +kernel
theorem d_Md_addsDance_151 : decode m_Md_addsDance.2.1 151 = .ok (.istore 5, 2) := by decide +kernel
theorem d_Md_addsDance_109 : decode m_Md_addsDance.2.1 109 = .ok (.aload_n 0, 1) := by decide +kernel
theorem d_Md_addsDance_110 : decode m_Md_addsDance.2.1 110 = .ok (.getfield 63, 3) := by decide +kernel
theorem d_Md_addsDance_113 : decode m_Md_addsDance.2.1 113 = .ok (.aload_n 0, 1) := by decide +kernel
theorem d_Md_addsDance_114 : decode m_Md_addsDance.2.1 114 = .ok (.getfield 407, 3) := by decide +kernel
theorem d_Md_addsDance_117 : decode m_Md_addsDance.2.1 117 = .ok (.iload_n 1, 1) := by decide +kernel
theorem d_Md_addsDance_118 : decode m_Md_addsDance.2.1 118 = .ok (.iastore, 1) := by decide +kernel
theorem d_Md_addsDance_119 : decode m_Md_addsDance.2.1 119 = .ok (.aload_n 0, 1) := by decide +kernel
theorem d_Md_addsDance_120 : decode m_Md_addsDance.2.1 120 = .ok (.getfield 66, 3) := by decide +kernel
theorem d_Md_addsDance_123 : decode m_Md_addsDance.2.1 123 = .ok (.aload_n 0, 1) := by decide +kernel
theorem d_Md_addsDance_124 : decode m_Md_addsDance.2.1 124 = .ok (.getfield 407, 3) := by decide +kernel
theorem d_Md_addsDance_127 : decode m_Md_addsDance.2.1 127 = .ok (.iload_n 2, 1) := by decide +kernel
theorem d_Md_addsDance_128 : decode m_Md_addsDance.2.1 128 = .ok (.iastore, 1) := by decide +kernel
theorem d_Md_addsDance_129 : decode m_Md_addsDance.2.1 129 = .ok (.aload_n 0, 1) := by decide +kernel
theorem d_Md_addsDance_130 : decode m_Md_addsDance.2.1 130 = .ok (.dup, 1) := by decide +kernel
theorem d_Md_addsDance_131 : decode m_Md_addsDance.2.1 131 = .ok (.getfield 407, 3) := by decide +kernel
theorem d_Md_addsDance_134 : decode m_Md_addsDance.2.1 134 = .ok (.iconst 1, 1) := by decide +kernel
theorem d_Md_addsDance_135 : decode m_Md_addsDance.2.1 135 = .ok (.iadd, 1) := by decide +kernel
theorem d_Md_addsDance_136 : decode m_Md_addsDance.2.1 136 = .ok (.putfield 407, 3) := by decide +kernel
theorem d_Md_addsDance_139 : decode m_Md_addsDance.2.1 139 = .ok (.return_, 1) := by decide +kernel
theorem d_Md_addsDance_70 : decode m_Md_addsDance.2.1 70 = .ok (.iload 4, 2) := by decide +kernel
theorem d_Md_addsDance_72 : decode m_Md_addsDance.2.1 72 = .ok (.ifCond .eq 32, 3) := by decide +kernel
theorem d_Md_addsDance_75 : decode m_Md_addsDance.2.1 75 = .ok (.aload_n 0, 1) := by decide +kernel
theorem d_Md_addsDance_76 : decode m_Md_addsDance.2.1 76 = .ok (.iconst 0, 1) := by decide +kernel
theorem d_Md_addsDance_77 : decode m_Md_addsDance.2.1 77 = .ok (.aload_n 0, 1) := by decide +kernel
theorem d_Md_addsDance_78 : decode m_Md_addsDance.2.1 78 = .ok (.getfield 63, 3) := by decide +kernel
theorem d_Md_addsDance_81 : decode m_Md_addsDance.2.1 81 = .ok (.iload 5, 2) := by decide +kernel
theorem d_Md_addsDance_83 : decode m_Md_addsDance.2.1 83 = .ok (.iaload, 1) := by decide +kernel
theorem d_Md_addsDance_84 : decode m_Md_addsDance.2.1 84 = .ok (.iload_n 1, 1) := by decide +kernel
theorem d_Md_addsDance_85 : decode m_Md_addsDance.2.1 85 = .ok (.invokevirtual 217, 3) := by decide +kernel
theorem d_Md_addsDance_88 : decode m_Md_addsDance.2.1 88 = .ok (.ifCond .ne 7, 3) := by decide +kernel
theorem d_Md_addsDance_95 : decode m_Md_addsDance.2.1 95 = .ok (.iconst 0, 1) := by decide +kernel
theorem d_Md_addsDance_96 : decode m_Md_addsDance.2.1 96 = .ok (.istore 4, 2) := by decide +kernel
theorem d_Md_addsDance_98 : decode m_Md_addsDance.2.1 98 = .ok (.iinc 5 1, 3) := by decide +kernel
theorem d_Md_addsDance_101 : decode m_Md_addsDance.2.1 101 = .ok (.goto (-40), 3) := by decide +kernel
theorem d_Md_addsDance_91 : decode m_Md_addsDance.2.1 91 = .ok (.iconst 1, 1) := by decide +kernel
theorem d_Md_addsDance_92 : decode m_Md_addsDance.2.1 92 = .ok (.goto 4, 3) := by decide +kernel
theorem d_Md_addsDance_153 : decode m_Md_addsDance.2.1 153 = .ok (.iload 5, 2) := by decide +kernel
theorem d_Md_addsDance_155 : decode m_Md_addsDance.2.1 155 = .ok (.aload_n 0, 1) := by decide +kernel
theorem d_Md_addsDance_156 : decode m_Md_addsDance.2.1 156 = .ok (.getfield 407, 3) := by decide +kernel
theorem d_Md_addsDance_159 : decode m_Md_addsDance.2.1 159 = .ok (.if_icmp .ge 41, 3) := by decide +kernel
theorem d_Md_addsDance_200 : decode m_Md_addsDance.2.1 200 = .ok (.return_, 1) := by decide +kernel
theorem d_Md_addsDance_162 : decode m_Md_addsDance.2.1 162 = .ok (.aload_n 0, 1) := by decide +kernel
theorem d_Md_addsDance_163 : decode m_Md_addsDance.2.1 163 = .ok (.getfield 63, 3) := by decide +kernel
theorem d_Md_addsDance_166 : decode m_Md_addsDance.2.1 166 = .ok (.iload 5, 2) := by decide +kernel
theorem d_Md_addsDance_168 : decode m_Md_addsDance.2.1 168 = .ok (.aload_n 0, 1) := by decide +kernel
theorem d_Md_addsDance_169 : decode m_Md_addsDance.2.1 169 = .ok (.getfield 63, 3) := by decide +kernel
theorem d_Md_addsDance_172 : decode m_Md_addsDance.2.1 172 = .ok (.iload 5, 2) := by decide +kernel
theorem d_Md_addsDance_174 : decode m_Md_addsDance.2.1 174 = .ok (.iconst 1, 1) := by decide +kernel
theorem d_Md_addsDance_175 : decode m_Md_addsDance.2.1 175 = .ok (.iadd, 1) := by decide +kernel
theorem d_Md_addsDance_176 : decode m_Md_addsDance.2.1 176 = .ok (.iaload, 1) := by decide +kernel
theorem d_Md_addsDance_177 : decode m_Md_addsDance.2.1 177 = .ok (.iastore, 1) := by decide +kernel
theorem d_Md_addsDance_178 : decode m_Md_addsDance.2.1 178 = .ok (.aload_n 0, 1) := by decide +kernel
theorem d_Md_addsDance_179 : decode m_Md_addsDance.2.1 179 = .ok (.getfield 66, 3) := by decide +kernel
theorem d_Md_addsDance_182 : decode m_Md_addsDance.2.1 182 = .ok (.iload 5, 2) := by decide +kernel
theorem d_Md_addsDance_184 : decode m_Md_addsDance.2.1 184 = .ok (.aload_n 0, 1) := by decide +kernel
theorem d_Md_addsDance_185 : decode m_Md_addsDance.2.1 185 = .ok (.getfield 66, 3) := by decide +kernel
theorem d_Md_addsDance_188 : decode m_Md_addsDance.2.1 188 = .ok (.iload 5, 2) := by decide +kernel
theorem d_Md_addsDance_190 : decode m_Md_addsDance.2.1 190 = .ok (.iconst 1, 1) := by decide +kernel
theorem d_Md_addsDance_191 : decode m_Md_addsDance.2.1 191 = .ok (.iadd, 1) := by decide +kernel
theorem d_Md_addsDance_192 : decode m_Md_addsDance.2.1 192 = .ok (.iaload, 1) := by decide +kernel
theorem d_Md_addsDance_193 : decode m_Md_addsDance.2.1 193 = .ok (.iastore, 1) := by decide +kernel
theorem d_Md_addsDance_194 : decode m_Md_addsDance.2.1 194 = .ok (.iinc 5 1, 3) := by decide +kernel
theorem d_Md_addsDance_197 : decode m_Md_addsDance.2.1 197 = .ok (.goto (-44), 3) := by decide +kernel
theorem d_Md_apartNow_0 : decode m_Md_apartNow.2.1 0 = .ok (.aload_n 0, 1) := by decide +kernel
theorem d_Md_apartNow_1 : decode m_Md_apartNow.2.1 1 = .ok (.getfield 7, 3) := by decide +kernel
theorem d_Md_apartNow_4 : decode m_Md_apartNow.2.1 4 = .ok (.iconst 3, 1) := by decide +kernel
theorem d_Md_apartNow_5 : decode m_Md_apartNow.2.1 5 = .ok (.iaload, 1) := by decide +kernel
theorem d_Md_apartNow_6 : decode m_Md_apartNow.2.1 6 = .ok (.aload_n 0, 1) := by decide +kernel
theorem d_Md_apartNow_7 : decode m_Md_apartNow.2.1 7 = .ok (.getfield 407, 3) := by decide +kernel
theorem d_Md_apartNow_10 : decode m_Md_apartNow.2.1 10 = .ok (.iadd, 1) := by decide +kernel
theorem d_Md_apartNow_11 : decode m_Md_apartNow.2.1 11 = .ok (.iconst 2, 1) := by decide +kernel
theorem d_Md_apartNow_12 : decode m_Md_apartNow.2.1 12 = .ok (.aload_n 0, 1) := by decide +kernel
theorem d_Md_apartNow_13 : decode m_Md_apartNow.2.1 13 = .ok (.invokevirtual 417, 3) := by decide +kernel
abbrev m_Md_alike : aw_MI := (⟨"MaypoleGreenModel", "alike", "()I"⟩, prog_14_method_105_code, 5, some .int)
theorem lk_Md_417 : Cond.methodLink "MaypoleGreenModel" 417 m_Md_alike.1 ∈ aw_T := aw_in 1820 (by decide +kernel) rfl
theorem k_Md_alike : aw_K m_Md_alike 0 := ⟨aw_in 1823 (by decide +kernel) rfl, aw_in 16 (by decide +kernel) rfl, ⟨by decide, by decide, by decide +kernel⟩, by decide, by decide +kernel⟩
theorem in_Md_alike : Cond.instanceMethod m_Md_alike.1 ∈ aw_T := aw_in 1822 (by decide +kernel) rfl
theorem se_Md_alike : Cond.selects m_Md_alike.1.cls m_Md_alike.1 m_Md_alike.1 ∈ aw_T := aw_inP 120 (by decide +kernel) rfl
theorem d_Md_apartNow_16 : decode m_Md_apartNow.2.1 16 = .ok (.imul, 1) := by decide +kernel
theorem d_Md_apartNow_17 : decode m_Md_apartNow.2.1 17 = .ok (.isub, 1) := by decide +kernel
theorem d_Md_apartNow_18 : decode m_Md_apartNow.2.1 18 = .ok (.ireturn, 1) := by decide +kernel
theorem d_Md_alike_0 : decode m_Md_alike.2.1 0 = .ok (.iconst 0, 1) := by decide +kernel
theorem d_Md_alike_1 : decode m_Md_alike.2.1 1 = .ok (.istore_n 1, 1) := by decide +kernel
theorem d_Md_alike_2 : decode m_Md_alike.2.1 2 = .ok (.iload_n 1, 1) := by decide +kernel
theorem d_Md_alike_3 : decode m_Md_alike.2.1 3 = .ok (.bipush 40, 2) := by decide +kernel
theorem d_Md_alike_5 : decode m_Md_alike.2.1 5 = .ok (.if_icmp .ge 49, 3) := by decide +kernel
theorem d_Md_alike_54 : decode m_Md_alike.2.1 54 = .ok (.iconst 0, 1) := by decide +kernel
theorem d_Md_alike_55 : decode m_Md_alike.2.1 55 = .ok (.istore_n 1, 1) := by decide +kernel
theorem d_Md_alike_56 : decode m_Md_alike.2.1 56 = .ok (.iconst 0, 1) := by decide +kernel
theorem d_Md_alike_57 : decode m_Md_alike.2.1 57 = .ok (.istore_n 2, 1) := by decide +kernel
theorem d_Md_alike_8 : decode m_Md_alike.2.1 8 = .ok (.aload_n 0, 1) := by decide +kernel
theorem d_Md_alike_9 : decode m_Md_alike.2.1 9 = .ok (.getfield 69, 3) := by decide +kernel
theorem f_Md_69 : aw_F "MaypoleGreenModel" 69 11 34 true := ⟨cR11, cT11, 52, fun k => cY11.getD k .int, rfl, ci11, cy11, cn11, rfl, by decide, aw_in 1288 (by decide +kernel) rfl, rfl, rfl, rfl⟩
theorem d_Md_alike_12 : decode m_Md_alike.2.1 12 = .ok (.iload_n 1, 1) := by decide +kernel
theorem d_Md_alike_13 : decode m_Md_alike.2.1 13 = .ok (.iload_n 1, 1) := by decide +kernel
theorem d_Md_alike_14 : decode m_Md_alike.2.1 14 = .ok (.aload_n 0, 1) := by decide +kernel
theorem d_Md_alike_15 : decode m_Md_alike.2.1 15 = .ok (.getfield 7, 3) := by decide +kernel
theorem d_Md_alike_18 : decode m_Md_alike.2.1 18 = .ok (.iconst 3, 1) := by decide +kernel
theorem d_Md_alike_19 : decode m_Md_alike.2.1 19 = .ok (.iaload, 1) := by decide +kernel
theorem d_Md_alike_20 : decode m_Md_alike.2.1 20 = .ok (.if_icmp .ge 7, 3) := by decide +kernel
theorem d_Md_alike_27 : decode m_Md_alike.2.1 27 = .ok (.iconst 0, 1) := by decide +kernel
theorem d_Md_alike_28 : decode m_Md_alike.2.1 28 = .ok (.bastore, 1) := by decide +kernel
theorem d_Md_alike_29 : decode m_Md_alike.2.1 29 = .ok (.aload_n 0, 1) := by decide +kernel
theorem d_Md_alike_30 : decode m_Md_alike.2.1 30 = .ok (.getfield 72, 3) := by decide +kernel
theorem f_Md_72 : aw_F "MaypoleGreenModel" 72 11 35 true := ⟨cR11, cT11, 52, fun k => cY11.getD k .int, rfl, ci11, cy11, cn11, rfl, by decide, aw_in 1289 (by decide +kernel) rfl, rfl, rfl, rfl⟩
theorem d_Md_alike_33 : decode m_Md_alike.2.1 33 = .ok (.iload_n 1, 1) := by decide +kernel
theorem d_Md_alike_34 : decode m_Md_alike.2.1 34 = .ok (.iload_n 1, 1) := by decide +kernel
theorem d_Md_alike_35 : decode m_Md_alike.2.1 35 = .ok (.aload_n 0, 1) := by decide +kernel
theorem d_Md_alike_36 : decode m_Md_alike.2.1 36 = .ok (.getfield 407, 3) := by decide +kernel
theorem d_Md_alike_39 : decode m_Md_alike.2.1 39 = .ok (.if_icmp .ge 7, 3) := by decide +kernel
theorem d_Md_alike_46 : decode m_Md_alike.2.1 46 = .ok (.iconst 0, 1) := by decide +kernel
theorem d_Md_alike_47 : decode m_Md_alike.2.1 47 = .ok (.bastore, 1) := by decide +kernel
theorem d_Md_alike_48 : decode m_Md_alike.2.1 48 = .ok (.iinc 1 1, 3) := by decide +kernel
theorem d_Md_alike_51 : decode m_Md_alike.2.1 51 = .ok (.goto (-49), 3) := by decide +kernel
theorem d_Md_alike_42 : decode m_Md_alike.2.1 42 = .ok (.iconst 1, 1) := by decide +kernel
theorem d_Md_alike_43 : decode m_Md_alike.2.1 43 = .ok (.goto 4, 3) := by decide +kernel
theorem d_Md_alike_23 : decode m_Md_alike.2.1 23 = .ok (.iconst 1, 1) := by decide +kernel
theorem d_Md_alike_24 : decode m_Md_alike.2.1 24 = .ok (.goto 4, 3) := by decide +kernel
theorem d_Md_alike_58 : decode m_Md_alike.2.1 58 = .ok (.iload_n 2, 1) := by decide +kernel
theorem d_Md_alike_59 : decode m_Md_alike.2.1 59 = .ok (.aload_n 0, 1) := by decide +kernel
theorem d_Md_alike_60 : decode m_Md_alike.2.1 60 = .ok (.iconst 0, 1) := by decide +kernel
theorem d_Md_alike_61 : decode m_Md_alike.2.1 61 = .ok (.invokevirtual 260, 3) := by decide +kernel
theorem d_Md_alike_64 : decode m_Md_alike.2.1 64 = .ok (.if_icmp .ge 74, 3) := by decide +kernel
theorem d_Md_alike_138 : decode m_Md_alike.2.1 138 = .ok (.iload_n 1, 1) := by decide +kernel
theorem d_Md_alike_139 : decode m_Md_alike.2.1 139 = .ok (.ireturn, 1) := by decide +kernel
theorem d_Md_alike_67 : decode m_Md_alike.2.1 67 = .ok (.aload_n 0, 1) := by decide +kernel
theorem d_Md_alike_68 : decode m_Md_alike.2.1 68 = .ok (.iconst 1, 1) := by decide +kernel
theorem d_Md_alike_69 : decode m_Md_alike.2.1 69 = .ok (.iload_n 2, 1) := by decide +kernel
theorem d_Md_alike_70 : decode m_Md_alike.2.1 70 = .ok (.invokevirtual 413, 3) := by decide +kernel
abbrev m_Md_lowest : aw_MI := (⟨"MaypoleGreenModel", "lowest", "(ZI)I"⟩, prog_14_method_104_code, 7, some .int)
theorem lk_Md_413 : Cond.methodLink "MaypoleGreenModel" 413 m_Md_lowest.1 ∈ aw_T := aw_in 1824 (by decide +kernel) rfl
theorem k_Md_lowest : aw_K m_Md_lowest 2 := ⟨aw_in 1827 (by decide +kernel) rfl, aw_in 16 (by decide +kernel) rfl, ⟨by decide, by decide, by decide +kernel⟩, by decide, by decide +kernel⟩
theorem in_Md_lowest : Cond.instanceMethod m_Md_lowest.1 ∈ aw_T := aw_in 1826 (by decide +kernel) rfl
theorem se_Md_lowest : Cond.selects m_Md_lowest.1.cls m_Md_lowest.1 m_Md_lowest.1 ∈ aw_T := aw_inP 121 (by decide +kernel) rfl
theorem d_Md_alike_73 : decode m_Md_alike.2.1 73 = .ok (.istore_n 3, 1) := by decide +kernel
theorem d_Md_alike_74 : decode m_Md_alike.2.1 74 = .ok (.aload_n 0, 1) := by decide +kernel
theorem d_Md_alike_75 : decode m_Md_alike.2.1 75 = .ok (.iconst 0, 1) := by decide +kernel
theorem d_Md_alike_76 : decode m_Md_alike.2.1 76 = .ok (.iload_n 2, 1) := by decide +kernel
theorem d_Md_alike_77 : decode m_Md_alike.2.1 77 = .ok (.invokevirtual 413, 3) := by decide +kernel
theorem d_Md_alike_80 : decode m_Md_alike.2.1 80 = .ok (.istore 4, 2) := by decide +kernel
theorem d_Md_alike_82 : decode m_Md_alike.2.1 82 = .ok (.iload_n 3, 1) := by decide +kernel
theorem d_Md_alike_83 : decode m_Md_alike.2.1 83 = .ok (.iconst (-1), 1) := by decide +kernel
theorem d_Md_alike_84 : decode m_Md_alike.2.1 84 = .ok (.if_icmp .eq 25, 3) := by decide +kernel
theorem d_Md_alike_109 : decode m_Md_alike.2.1 109 = .ok (.iinc 2 1, 3) := by decide +kernel
theorem d_Md_alike_112 : decode m_Md_alike.2.1 112 = .ok (.goto (-54), 3) := by decide +kernel
theorem d_Md_alike_87 : decode m_Md_alike.2.1 87 = .ok (.iload 4, 2) := by decide +kernel
theorem d_Md_alike_89 : decode m_Md_alike.2.1 89 = .ok (.iconst (-1), 1) := by decide +kernel
theorem d_Md_alike_90 : decode m_Md_alike.2.1 90 = .ok (.if_icmp .eq 19, 3) := by decide +kernel
theorem d_Md_alike_93 : decode m_Md_alike.2.1 93 = .ok (.aload_n 0, 1) := by decide +kernel
theorem d_Md_alike_94 : decode m_Md_alike.2.1 94 = .ok (.iload_n 3, 1) := by decide +kernel
theorem d_Md_alike_95 : decode m_Md_alike.2.1 95 = .ok (.iconst 1, 1) := by decide +kernel
theorem d_Md_alike_96 : decode m_Md_alike.2.1 96 = .ok (.invokevirtual 316, 3) := by decide +kernel
theorem d_Md_alike_99 : decode m_Md_alike.2.1 99 = .ok (.aload_n 0, 1) := by decide +kernel
theorem d_Md_alike_100 : decode m_Md_alike.2.1 100 = .ok (.getfield 66, 3) := by decide +kernel
theorem d_Md_alike_103 : decode m_Md_alike.2.1 103 = .ok (.iload 4, 2) := by decide +kernel
theorem d_Md_alike_105 : decode m_Md_alike.2.1 105 = .ok (.iaload, 1) := by decide +kernel
theorem d_Md_alike_106 : decode m_Md_alike.2.1 106 = .ok (.if_icmp .eq 9, 3) := by decide +kernel
theorem d_Md_alike_115 : decode m_Md_alike.2.1 115 = .ok (.aload_n 0, 1) := by decide +kernel
theorem d_Md_alike_116 : decode m_Md_alike.2.1 116 = .ok (.getfield 69, 3) := by decide +kernel
theorem d_Md_alike_119 : decode m_Md_alike.2.1 119 = .ok (.iload_n 3, 1) := by decide +kernel
theorem d_Md_alike_120 : decode m_Md_alike.2.1 120 = .ok (.iconst 0, 1) := by decide +kernel
theorem d_Md_alike_121 : decode m_Md_alike.2.1 121 = .ok (.bastore, 1) := by decide +kernel
theorem d_Md_alike_122 : decode m_Md_alike.2.1 122 = .ok (.aload_n 0, 1) := by decide +kernel
theorem d_Md_alike_123 : decode m_Md_alike.2.1 123 = .ok (.getfield 72, 3) := by decide +kernel
theorem d_Md_alike_126 : decode m_Md_alike.2.1 126 = .ok (.iload 4, 2) := by decide +kernel
theorem d_Md_alike_128 : decode m_Md_alike.2.1 128 = .ok (.iconst 0, 1) := by decide +kernel
theorem d_Md_alike_129 : decode m_Md_alike.2.1 129 = .ok (.bastore, 1) := by decide +kernel
theorem d_Md_alike_130 : decode m_Md_alike.2.1 130 = .ok (.iinc 1 1, 3) := by decide +kernel
theorem d_Md_alike_133 : decode m_Md_alike.2.1 133 = .ok (.iconst 0, 1) := by decide +kernel
theorem d_Md_alike_134 : decode m_Md_alike.2.1 134 = .ok (.istore_n 2, 1) := by decide +kernel
theorem d_Md_alike_135 : decode m_Md_alike.2.1 135 = .ok (.goto (-77), 3) := by decide +kernel
theorem d_Md_lowest_0 : decode m_Md_lowest.2.1 0 = .ok (.iload_n 1, 1) := by decide +kernel
theorem d_Md_lowest_1 : decode m_Md_lowest.2.1 1 = .ok (.ifCond .eq 12, 3) := by decide +kernel
theorem d_Md_lowest_13 : decode m_Md_lowest.2.1 13 = .ok (.aload_n 0, 1) := by decide +kernel
theorem d_Md_lowest_14 : decode m_Md_lowest.2.1 14 = .ok (.getfield 407, 3) := by decide +kernel
theorem d_Md_lowest_17 : decode m_Md_lowest.2.1 17 = .ok (.istore_n 3, 1) := by decide +kernel
theorem d_Md_lowest_18 : decode m_Md_lowest.2.1 18 = .ok (.iconst 0, 1) := by decide +kernel
theorem d_Md_lowest_19 : decode m_Md_lowest.2.1 19 = .ok (.istore 4, 2) := by decide +kernel
theorem d_Md_lowest_4 : decode m_Md_lowest.2.1 4 = .ok (.aload_n 0, 1) := by decide +kernel
theorem d_Md_lowest_5 : decode m_Md_lowest.2.1 5 = .ok (.getfield 7, 3) := by decide +kernel
theorem d_Md_lowest_8 : decode m_Md_lowest.2.1 8 = .ok (.iconst 3, 1) := by decide +kernel
theorem d_Md_lowest_9 : decode m_Md_lowest.2.1 9 = .ok (.iaload, 1) := by decide +kernel
theorem d_Md_lowest_10 : decode m_Md_lowest.2.1 10 = .ok (.goto 7, 3) := by decide +kernel
theorem d_Md_lowest_21 : decode m_Md_lowest.2.1 21 = .ok (.iload 4, 2) := by decide +kernel
theorem d_Md_lowest_23 : decode m_Md_lowest.2.1 23 = .ok (.iload_n 3, 1) := by decide +kernel
theorem d_Md_lowest_24 : decode m_Md_lowest.2.1 24 = .ok (.if_icmp .ge 87, 3) := by decide +kernel
theorem d_Md_lowest_111 : decode m_Md_lowest.2.1 111 = .ok (.iconst (-1), 1) := by decide +kernel
theorem d_Md_lowest_112 : decode m_Md_lowest.2.1 112 = .ok (.ireturn, 1) := by decide +kernel
theorem d_Md_lowest_27 : decode m_Md_lowest.2.1 27 = .ok (.iload_n 1, 1) := by decide +kernel
theorem d_Md_lowest_28 : decode m_Md_lowest.2.1 28 = .ok (.ifCond .eq 13, 3) := by decide +kernel
theorem d_Md_lowest_41 : decode m_Md_lowest.2.1 41 = .ok (.aload_n 0, 1) := by decide +kernel
theorem d_Md_lowest_42 : decode m_Md_lowest.2.1 42 = .ok (.getfield 72, 3) := by decide +kernel
theorem d_Md_lowest_45 : decode m_Md_lowest.2.1 45 = .ok (.iload 4, 2) := by decide +kernel
theorem d_Md_lowest_47 : decode m_Md_lowest.2.1 47 = .ok (.baload, 1) := by decide +kernel
theorem d_Md_lowest_48 : decode m_Md_lowest.2.1 48 = .ok (.istore 5, 2) := by decide +kernel
theorem d_Md_lowest_50 : decode m_Md_lowest.2.1 50 = .ok (.iload_n 1, 1) := by decide +kernel
theorem d_Md_lowest_51 : decode m_Md_lowest.2.1 51 = .ok (.ifCond .eq 13, 3) := by decide +kernel
theorem d_Md_lowest_64 : decode m_Md_lowest.2.1 64 = .ok (.aload_n 0, 1) := by decide +kernel
theorem d_Md_lowest_65 : decode m_Md_lowest.2.1 65 = .ok (.getfield 63, 3) := by decide +kernel
theorem d_Md_lowest_68 : decode m_Md_lowest.2.1 68 = .ok (.iload 4, 2) := by decide +kernel
theorem d_Md_lowest_70 : decode m_Md_lowest.2.1 70 = .ok (.iaload, 1) := by decide +kernel
theorem d_Md_lowest_71 : decode m_Md_lowest.2.1 71 = .ok (.istore 6, 2) := by decide +kernel
theorem d_Md_lowest_73 : decode m_Md_lowest.2.1 73 = .ok (.iload 5, 2) := by decide +kernel
theorem d_Md_lowest_75 : decode m_Md_lowest.2.1 75 = .ok (.ifCond .eq 12, 3) := by decide +kernel
theorem d_Md_lowest_87 : decode m_Md_lowest.2.1 87 = .ok (.iload 5, 2) := by decide +kernel
theorem d_Md_lowest_89 : decode m_Md_lowest.2.1 89 = .ok (.ifCond .eq 16, 3) := by decide +kernel
theorem d_Md_lowest_105 : decode m_Md_lowest.2.1 105 = .ok (.iinc 4 1, 3) := by decide +kernel
theorem d_Md_lowest_108 : decode m_Md_lowest.2.1 108 = .ok (.goto (-87), 3) := by decide +kernel
theorem d_Md_lowest_92 : decode m_Md_lowest.2.1 92 = .ok (.aload_n 0, 1) := by decide +kernel
theorem d_Md_lowest_93 : decode m_Md_lowest.2.1 93 = .ok (.iconst 0, 1) := by decide +kernel
theorem d_Md_lowest_94 : decode m_Md_lowest.2.1 94 = .ok (.iload 6, 2) := by decide +kernel
theorem d_Md_lowest_96 : decode m_Md_lowest.2.1 96 = .ok (.iload_n 2, 1) := by decide +kernel
theorem d_Md_lowest_97 : decode m_Md_lowest.2.1 97 = .ok (.invokevirtual 217, 3) := by decide +kernel
theorem d_Md_lowest_100 : decode m_Md_lowest.2.1 100 = .ok (.ifCond .eq 5, 3) := by decide +kernel
theorem d_Md_lowest_103 : decode m_Md_lowest.2.1 103 = .ok (.iconst (-1), 1) := by decide +kernel
theorem d_Md_lowest_104 : decode m_Md_lowest.2.1 104 = .ok (.ireturn, 1) := by decide +kernel
theorem d_Md_lowest_78 : decode m_Md_lowest.2.1 78 = .ok (.iload 6, 2) := by decide +kernel
theorem d_Md_lowest_80 : decode m_Md_lowest.2.1 80 = .ok (.iload_n 2, 1) := by decide +kernel
theorem d_Md_lowest_81 : decode m_Md_lowest.2.1 81 = .ok (.if_icmp .ne 6, 3) := by decide +kernel
theorem d_Md_lowest_84 : decode m_Md_lowest.2.1 84 = .ok (.iload 4, 2) := by decide +kernel
theorem d_Md_lowest_86 : decode m_Md_lowest.2.1 86 = .ok (.ireturn, 1) := by decide +kernel
theorem d_Md_lowest_54 : decode m_Md_lowest.2.1 54 = .ok (.aload_n 0, 1) := by decide +kernel
theorem d_Md_lowest_55 : decode m_Md_lowest.2.1 55 = .ok (.iload 4, 2) := by decide +kernel
theorem d_Md_lowest_57 : decode m_Md_lowest.2.1 57 = .ok (.iconst 0, 1) := by decide +kernel
theorem d_Md_lowest_58 : decode m_Md_lowest.2.1 58 = .ok (.invokevirtual 316, 3) := by decide +kernel
theorem d_Md_lowest_61 : decode m_Md_lowest.2.1 61 = .ok (.goto 10, 3) := by decide +kernel
theorem d_Md_lowest_31 : decode m_Md_lowest.2.1 31 = .ok (.aload_n 0, 1) := by decide +kernel
theorem d_Md_lowest_32 : decode m_Md_lowest.2.1 32 = .ok (.getfield 69, 3) := by decide +kernel
theorem d_Md_lowest_35 : decode m_Md_lowest.2.1 35 = .ok (.iload 4, 2) := by decide +kernel
theorem d_Md_lowest_37 : decode m_Md_lowest.2.1 37 = .ok (.baload, 1) := by decide +kernel
theorem d_Md_lowest_38 : decode m_Md_lowest.2.1 38 = .ok (.goto 10, 3) := by decide +kernel
abbrev m_Md_apart : aw_MI := (⟨"MaypoleGreenModel", "apart", "(II)I"⟩, prog_14_method_108_code, 4, some .int)
theorem k_Md_apart : aw_K m_Md_apart 2 := ⟨aw_in 1831 (by decide +kernel) rfl, aw_in 16 (by decide +kernel) rfl, ⟨by decide, by decide, by decide +kernel⟩, by decide, by decide +kernel⟩
theorem d_Md_apart_0 : decode m_Md_apart.2.1 0 = .ok (.aload_n 0, 1) := by decide +kernel
theorem d_Md_apart_1 : decode m_Md_apart.2.1 1 = .ok (.iload_n 1, 1) := by decide +kernel
theorem d_Md_apart_2 : decode m_Md_apart.2.1 2 = .ok (.iload_n 2, 1) := by decide +kernel
theorem d_Md_apart_3 : decode m_Md_apart.2.1 3 = .ok (.invokevirtual 420, 3) := by decide +kernel
theorem d_Md_apart_6 : decode m_Md_apart.2.1 6 = .ok (.istore_n 3, 1) := by decide +kernel
theorem d_Md_apart_7 : decode m_Md_apart.2.1 7 = .ok (.iload_n 3, 1) := by decide +kernel
theorem d_Md_apart_8 : decode m_Md_apart.2.1 8 = .ok (.ifCond .le 9, 3) := by decide +kernel
theorem d_Md_apart_17 : decode m_Md_apart.2.1 17 = .ok (.aload_n 0, 1) := by decide +kernel
theorem d_Md_apart_18 : decode m_Md_apart.2.1 18 = .ok (.iload_n 1, 1) := by decide +kernel
theorem d_Md_apart_19 : decode m_Md_apart.2.1 19 = .ok (.iload_n 2, 1) := by decide +kernel
theorem d_Md_apart_20 : decode m_Md_apart.2.1 20 = .ok (.iconst (-1), 1) := by decide +kernel
theorem d_Md_apart_21 : decode m_Md_apart.2.1 21 = .ok (.invokevirtual 423, 3) := by decide +kernel
theorem d_Md_apart_24 : decode m_Md_apart.2.1 24 = .ok (.aload_n 0, 1) := by decide +kernel
theorem d_Md_apart_25 : decode m_Md_apart.2.1 25 = .ok (.aload_n 0, 1) := by decide +kernel
theorem d_Md_apart_26 : decode m_Md_apart.2.1 26 = .ok (.invokevirtual 427, 3) := by decide +kernel
theorem d_Md_apart_29 : decode m_Md_apart.2.1 29 = .ok (.invokevirtual 122, 3) := by decide +kernel
theorem d_Md_apart_32 : decode m_Md_apart.2.1 32 = .ok (.ireturn, 1) := by decide +kernel
theorem d_Md_apart_11 : decode m_Md_apart.2.1 11 = .ok (.aload_n 0, 1) := by decide +kernel
theorem d_Md_apart_12 : decode m_Md_apart.2.1 12 = .ok (.iload_n 3, 1) := by decide +kernel
theorem d_Md_apart_13 : decode m_Md_apart.2.1 13 = .ok (.invokevirtual 118, 3) := by decide +kernel
theorem d_Md_apart_16 : decode m_Md_apart.2.1 16 = .ok (.ireturn, 1) := by decide +kernel
abbrev m_Md_slips : aw_MI := (⟨"MaypoleGreenModel", "slips", "(II)I"⟩, prog_14_method_110_code, 4, some .int)
theorem k_Md_slips : aw_K m_Md_slips 2 := ⟨aw_in 1835 (by decide +kernel) rfl, aw_in 16 (by decide +kernel) rfl, ⟨by decide, by decide, by decide +kernel⟩, by decide, by decide +kernel⟩
theorem d_Md_slips_0 : decode m_Md_slips.2.1 0 = .ok (.aload_n 0, 1) := by decide +kernel
theorem d_Md_slips_1 : decode m_Md_slips.2.1 1 = .ok (.iload_n 1, 1) := by decide +kernel
theorem d_Md_slips_2 : decode m_Md_slips.2.1 2 = .ok (.iload_n 2, 1) := by decide +kernel
theorem d_Md_slips_3 : decode m_Md_slips.2.1 3 = .ok (.invokevirtual 420, 3) := by decide +kernel
theorem d_Md_slips_6 : decode m_Md_slips.2.1 6 = .ok (.istore_n 3, 1) := by decide +kernel
theorem d_Md_slips_7 : decode m_Md_slips.2.1 7 = .ok (.iload_n 3, 1) := by decide +kernel
theorem d_Md_slips_8 : decode m_Md_slips.2.1 8 = .ok (.ifCond .le 11, 3) := by decide +kernel
theorem d_Md_slips_19 : decode m_Md_slips.2.1 19 = .ok (.aload_n 0, 1) := by decide +kernel
theorem d_Md_slips_20 : decode m_Md_slips.2.1 20 = .ok (.aload_n 0, 1) := by decide +kernel
theorem d_Md_slips_21 : decode m_Md_slips.2.1 21 = .ok (.iload_n 1, 1) := by decide +kernel
theorem d_Md_slips_22 : decode m_Md_slips.2.1 22 = .ok (.iload_n 2, 1) := by decide +kernel
theorem d_Md_slips_23 : decode m_Md_slips.2.1 23 = .ok (.iconst (-1), 1) := by decide +kernel
theorem d_Md_slips_24 : decode m_Md_slips.2.1 24 = .ok (.invokevirtual 430, 3) := by decide +kernel
abbrev m_Md_slipOf : aw_MI := (⟨"MaypoleGreenModel", "slipOf", "(III)I"⟩, prog_14_method_109_code, 6, some .int)
theorem lk_Md_430 : Cond.methodLink "MaypoleGreenModel" 430 m_Md_slipOf.1 ∈ aw_T := aw_in 1836 (by decide +kernel) rfl
theorem k_Md_slipOf : aw_K m_Md_slipOf 3 := ⟨aw_in 1839 (by decide +kernel) rfl, aw_in 16 (by decide +kernel) rfl, ⟨by decide, by decide, by decide +kernel⟩, by decide, by decide +kernel⟩
theorem in_Md_slipOf : Cond.instanceMethod m_Md_slipOf.1 ∈ aw_T := aw_in 1838 (by decide +kernel) rfl
theorem se_Md_slipOf : Cond.selects m_Md_slipOf.1.cls m_Md_slipOf.1 m_Md_slipOf.1 ∈ aw_T := aw_inP 122 (by decide +kernel) rfl
theorem d_Md_slips_27 : decode m_Md_slips.2.1 27 = .ok (.invokevirtual 122, 3) := by decide +kernel
theorem d_Md_slips_30 : decode m_Md_slips.2.1 30 = .ok (.ireturn, 1) := by decide +kernel
theorem d_Md_slips_11 : decode m_Md_slips.2.1 11 = .ok (.aload_n 0, 1) := by decide +kernel
theorem d_Md_slips_12 : decode m_Md_slips.2.1 12 = .ok (.iload_n 3, 1) := by decide +kernel
theorem d_Md_slips_13 : decode m_Md_slips.2.1 13 = .ok (.invokevirtual 118, 3) := by decide +kernel
theorem d_Md_slips_16 : decode m_Md_slips.2.1 16 = .ok (.goto 14, 3) := by decide +kernel
theorem d_Md_slipOf_0 : decode m_Md_slipOf.2.1 0 = .ok (.iconst 0, 1) := by decide +kernel
theorem d_Md_slipOf_1 : decode m_Md_slipOf.2.1 1 = .ok (.istore 4, 2) := by decide +kernel
theorem d_Md_slipOf_3 : decode m_Md_slipOf.2.1 3 = .ok (.iconst 0, 1) := by decide +kernel
theorem d_Md_slipOf_4 : decode m_Md_slipOf.2.1 4 = .ok (.istore 5, 2) := by decide +kernel
theorem d_Md_slipOf_6 : decode m_Md_slipOf.2.1 6 = .ok (.iload 5, 2) := by decide +kernel
theorem d_Md_slipOf_8 : decode m_Md_slipOf.2.1 8 = .ok (.iload_n 2, 1) := by decide +kernel
theorem d_Md_slipOf_9 : decode m_Md_slipOf.2.1 9 = .ok (.if_icmp .ge 39, 3) := by decide +kernel
theorem d_Md_slipOf_48 : decode m_Md_slipOf.2.1 48 = .ok (.iload_n 3, 1) := by decide +kernel
theorem d_Md_slipOf_49 : decode m_Md_slipOf.2.1 49 = .ok (.ifCond .ge 8, 3) := by decide +kernel
theorem d_Md_slipOf_57 : decode m_Md_slipOf.2.1 57 = .ok (.iconst (-1), 1) := by decide +kernel
theorem d_Md_slipOf_58 : decode m_Md_slipOf.2.1 58 = .ok (.ireturn, 1) := by decide +kernel
theorem d_Md_slipOf_52 : decode m_Md_slipOf.2.1 52 = .ok (.iload 4, 2) := by decide +kernel
theorem d_Md_slipOf_54 : decode m_Md_slipOf.2.1 54 = .ok (.goto 4, 3) := by decide +kernel
theorem d_Md_slipOf_12 : decode m_Md_slipOf.2.1 12 = .ok (.aload_n 0, 1) := by decide +kernel
theorem d_Md_slipOf_13 : decode m_Md_slipOf.2.1 13 = .ok (.iload_n 1, 1) := by decide +kernel
theorem d_Md_slipOf_14 : decode m_Md_slipOf.2.1 14 = .ok (.iload_n 2, 1) := by decide +kernel
theorem d_Md_slipOf_15 : decode m_Md_slipOf.2.1 15 = .ok (.iload 5, 2) := by decide +kernel
theorem d_Md_slipOf_17 : decode m_Md_slipOf.2.1 17 = .ok (.invokevirtual 423, 3) := by decide +kernel
theorem d_Md_slipOf_20 : decode m_Md_slipOf.2.1 20 = .ok (.aload_n 0, 1) := by decide +kernel
theorem d_Md_slipOf_21 : decode m_Md_slipOf.2.1 21 = .ok (.invokevirtual 427, 3) := by decide +kernel
theorem d_Md_slipOf_24 : decode m_Md_slipOf.2.1 24 = .ok (.ifCond .le 6, 3) := by decide +kernel
theorem d_Md_slipOf_30 : decode m_Md_slipOf.2.1 30 = .ok (.iload 4, 2) := by decide +kernel
theorem d_Md_slipOf_32 : decode m_Md_slipOf.2.1 32 = .ok (.iload_n 3, 1) := by decide +kernel
theorem d_Md_slipOf_33 : decode m_Md_slipOf.2.1 33 = .ok (.if_icmp .ne 6, 3) := by decide +kernel
theorem d_Md_slipOf_39 : decode m_Md_slipOf.2.1 39 = .ok (.iinc 4 1, 3) := by decide +kernel
theorem d_Md_slipOf_42 : decode m_Md_slipOf.2.1 42 = .ok (.iinc 5 1, 3) := by decide +kernel
theorem d_Md_slipOf_45 : decode m_Md_slipOf.2.1 45 = .ok (.goto (-39), 3) := by decide +kernel
theorem d_Md_slipOf_36 : decode m_Md_slipOf.2.1 36 = .ok (.iload 5, 2) := by decide +kernel
theorem d_Md_slipOf_38 : decode m_Md_slipOf.2.1 38 = .ok (.ireturn, 1) := by decide +kernel
theorem d_Md_slipOf_27 : decode m_Md_slipOf.2.1 27 = .ok (.goto 15, 3) := by decide +kernel
abbrev m_Md_slipAt : aw_MI := (⟨"MaypoleGreenModel", "slipAt", "(III)I"⟩, prog_14_method_111_code, 5, some .int)
theorem k_Md_slipAt : aw_K m_Md_slipAt 3 := ⟨aw_in 1843 (by decide +kernel) rfl, aw_in 16 (by decide +kernel) rfl, ⟨by decide, by decide, by decide +kernel⟩, by decide, by decide +kernel⟩
theorem d_Md_slipAt_0 : decode m_Md_slipAt.2.1 0 = .ok (.iload_n 3, 1) := by decide +kernel
theorem d_Md_slipAt_1 : decode m_Md_slipAt.2.1 1 = .ok (.ifCond .ge 7, 3) := by decide +kernel
theorem d_Md_slipAt_8 : decode m_Md_slipAt.2.1 8 = .ok (.aload_n 0, 1) := by decide +kernel
theorem d_Md_slipAt_9 : decode m_Md_slipAt.2.1 9 = .ok (.iload_n 1, 1) := by decide +kernel
theorem d_Md_slipAt_10 : decode m_Md_slipAt.2.1 10 = .ok (.iload_n 2, 1) := by decide +kernel
theorem d_Md_slipAt_11 : decode m_Md_slipAt.2.1 11 = .ok (.invokevirtual 420, 3) := by decide +kernel
theorem d_Md_slipAt_14 : decode m_Md_slipAt.2.1 14 = .ok (.istore 4, 2) := by decide +kernel
theorem d_Md_slipAt_16 : decode m_Md_slipAt.2.1 16 = .ok (.iload 4, 2) := by decide +kernel
theorem d_Md_slipAt_18 : decode m_Md_slipAt.2.1 18 = .ok (.ifCond .le 12, 3) := by decide +kernel
theorem d_Md_slipAt_30 : decode m_Md_slipAt.2.1 30 = .ok (.aload_n 0, 1) := by decide +kernel
theorem d_Md_slipAt_31 : decode m_Md_slipAt.2.1 31 = .ok (.aload_n 0, 1) := by decide +kernel
theorem d_Md_slipAt_32 : decode m_Md_slipAt.2.1 32 = .ok (.iload_n 1, 1) := by decide +kernel
theorem d_Md_slipAt_33 : decode m_Md_slipAt.2.1 33 = .ok (.iload_n 2, 1) := by decide +kernel
theorem d_Md_slipAt_34 : decode m_Md_slipAt.2.1 34 = .ok (.iload_n 3, 1) := by decide +kernel
theorem d_Md_slipAt_35 : decode m_Md_slipAt.2.1 35 = .ok (.invokevirtual 430, 3) := by decide +kernel
theorem d_Md_slipAt_38 : decode m_Md_slipAt.2.1 38 = .ok (.invokevirtual 433, 3) := by decide +kernel
abbrev m_Md_orNone : aw_MI := (⟨"MaypoleGreenModel", "orNone", "(I)I"⟩, prog_14_method_9_code, 2, some .int)
theorem lk_Md_433 : Cond.methodLink "MaypoleGreenModel" 433 m_Md_orNone.1 ∈ aw_T := aw_in 1844 (by decide +kernel) rfl
theorem k_Md_orNone : aw_K m_Md_orNone 1 := ⟨aw_in 1847 (by decide +kernel) rfl, aw_in 16 (by decide +kernel) rfl, ⟨by decide, by decide, by decide +kernel⟩, by decide, by decide +kernel⟩
theorem in_Md_orNone : Cond.instanceMethod m_Md_orNone.1 ∈ aw_T := aw_in 1846 (by decide +kernel) rfl
theorem se_Md_orNone : Cond.selects m_Md_orNone.1.cls m_Md_orNone.1 m_Md_orNone.1 ∈ aw_T := aw_inP 123 (by decide +kernel) rfl
theorem d_Md_slipAt_41 : decode m_Md_slipAt.2.1 41 = .ok (.ireturn, 1) := by decide +kernel
theorem d_Md_slipAt_21 : decode m_Md_slipAt.2.1 21 = .ok (.aload_n 0, 1) := by decide +kernel
theorem d_Md_slipAt_22 : decode m_Md_slipAt.2.1 22 = .ok (.iload 4, 2) := by decide +kernel
theorem d_Md_slipAt_24 : decode m_Md_slipAt.2.1 24 = .ok (.invokevirtual 118, 3) := by decide +kernel
theorem d_Md_slipAt_27 : decode m_Md_slipAt.2.1 27 = .ok (.goto 14, 3) := by decide +kernel
theorem d_Md_slipAt_4 : decode m_Md_slipAt.2.1 4 = .ok (.iconst 1, 1) := by decide +kernel
theorem d_Md_slipAt_5 : decode m_Md_slipAt.2.1 5 = .ok (.goto 9, 3) := by decide +kernel
theorem d_Md_orNone_0 : decode m_Md_orNone.2.1 0 = .ok (.iload_n 1, 1) := by decide +kernel
theorem d_Md_orNone_1 : decode m_Md_orNone.2.1 1 = .ok (.iconst (-1), 1) := by decide +kernel
theorem d_Md_orNone_2 : decode m_Md_orNone.2.1 2 = .ok (.if_icmp .ne 10, 3) := by decide +kernel
theorem d_Md_orNone_12 : decode m_Md_orNone.2.1 12 = .ok (.aload_n 0, 1) := by decide +kernel
theorem d_Md_orNone_13 : decode m_Md_orNone.2.1 13 = .ok (.iload_n 1, 1) := by decide +kernel
theorem d_Md_orNone_14 : decode m_Md_orNone.2.1 14 = .ok (.invokevirtual 122, 3) := by decide +kernel
theorem d_Md_orNone_17 : decode m_Md_orNone.2.1 17 = .ok (.ireturn, 1) := by decide +kernel
theorem d_Md_orNone_5 : decode m_Md_orNone.2.1 5 = .ok (.aload_n 0, 1) := by decide +kernel
theorem d_Md_orNone_6 : decode m_Md_orNone.2.1 6 = .ok (.bipush 6, 2) := by decide +kernel
theorem d_Md_orNone_8 : decode m_Md_orNone.2.1 8 = .ok (.invokevirtual 118, 3) := by decide +kernel
theorem d_Md_orNone_11 : decode m_Md_orNone.2.1 11 = .ok (.ireturn, 1) := by decide +kernel
abbrev m_Md_fits : aw_MI := (⟨"MaypoleGreenModel", "fits", "(III)I"⟩, prog_14_method_118_code, 5, some .int)
theorem k_Md_fits : aw_K m_Md_fits 3 := ⟨aw_in 1851 (by decide +kernel) rfl, aw_in 16 (by decide +kernel) rfl, ⟨by decide, by decide, by decide +kernel⟩, by decide, by decide +kernel⟩
theorem d_Md_fits_0 : decode m_Md_fits.2.1 0 = .ok (.aload_n 0, 1) := by decide +kernel
theorem d_Md_fits_1 : decode m_Md_fits.2.1 1 = .ok (.iload_n 1, 1) := by decide +kernel
theorem d_Md_fits_2 : decode m_Md_fits.2.1 2 = .ok (.iload_n 2, 1) := by decide +kernel
theorem d_Md_fits_3 : decode m_Md_fits.2.1 3 = .ok (.iload_n 3, 1) := by decide +kernel
theorem d_Md_fits_4 : decode m_Md_fits.2.1 4 = .ok (.invokevirtual 457, 3) := by decide +kernel
abbrev m_Md_wrongSeen : aw_MI := (⟨"MaypoleGreenModel", "wrongSeen", "(III)I"⟩, prog_14_method_115_code, 6, some .int)
theorem lk_Md_457 : Cond.methodLink "MaypoleGreenModel" 457 m_Md_wrongSeen.1 ∈ aw_T := aw_in 1852 (by decide +kernel) rfl
theorem k_Md_wrongSeen : aw_K m_Md_wrongSeen 3 := ⟨aw_in 1855 (by decide +kernel) rfl, aw_in 16 (by decide +kernel) rfl, ⟨by decide, by decide, by decide +kernel⟩, by decide, by decide +kernel⟩
theorem in_Md_wrongSeen : Cond.instanceMethod m_Md_wrongSeen.1 ∈ aw_T := aw_in 1854 (by decide +kernel) rfl
theorem se_Md_wrongSeen : Cond.selects m_Md_wrongSeen.1.cls m_Md_wrongSeen.1 m_Md_wrongSeen.1 ∈ aw_T := aw_inP 124 (by decide +kernel) rfl
theorem d_Md_fits_7 : decode m_Md_fits.2.1 7 = .ok (.istore 4, 2) := by decide +kernel
theorem d_Md_fits_9 : decode m_Md_fits.2.1 9 = .ok (.iload 4, 2) := by decide +kernel
theorem d_Md_fits_11 : decode m_Md_fits.2.1 11 = .ok (.ifCond .le 10, 3) := by decide +kernel
theorem d_Md_fits_21 : decode m_Md_fits.2.1 21 = .ok (.aload_n 0, 1) := by decide +kernel
theorem d_Md_fits_22 : decode m_Md_fits.2.1 22 = .ok (.iload_n 1, 1) := by decide +kernel
theorem d_Md_fits_23 : decode m_Md_fits.2.1 23 = .ok (.iload_n 2, 1) := by decide +kernel
theorem d_Md_fits_24 : decode m_Md_fits.2.1 24 = .ok (.iload_n 3, 1) := by decide +kernel
theorem d_Md_fits_25 : decode m_Md_fits.2.1 25 = .ok (.invokevirtual 460, 3) := by decide +kernel
abbrev m_Md_laysRowsSeen : aw_MI := (⟨"MaypoleGreenModel", "laysRowsSeen", "(III)V"⟩, prog_14_method_117_code, 6, none)
theorem lk_Md_460 : Cond.methodLink "MaypoleGreenModel" 460 m_Md_laysRowsSeen.1 ∈ aw_T := aw_in 1859 (by decide +kernel) rfl
theorem k_Md_laysRowsSeen : aw_K m_Md_laysRowsSeen 3 := ⟨aw_in 1862 (by decide +kernel) rfl, aw_in 16 (by decide +kernel) rfl, ⟨by decide, by decide, by decide +kernel⟩, by decide, by decide +kernel⟩
theorem in_Md_laysRowsSeen : Cond.instanceMethod m_Md_laysRowsSeen.1 ∈ aw_T := aw_in 1861 (by decide +kernel) rfl
theorem se_Md_laysRowsSeen : Cond.selects m_Md_laysRowsSeen.1.cls m_Md_laysRowsSeen.1 m_Md_laysRowsSeen.1 ∈ aw_T := aw_inP 125 (by decide +kernel) rfl
theorem d_Md_fits_28 : decode m_Md_fits.2.1 28 = .ok (.aload_n 0, 1) := by decide +kernel
theorem d_Md_fits_29 : decode m_Md_fits.2.1 29 = .ok (.aload_n 0, 1) := by decide +kernel
theorem d_Md_fits_30 : decode m_Md_fits.2.1 30 = .ok (.getfield 442, 3) := by decide +kernel
theorem f_Md_442 : aw_F "MaypoleGreenModel" 442 11 39 false := ⟨cR11, cT11, 52, fun k => cY11.getD k .int, rfl, ci11, cy11, cn11, rfl, by decide, aw_in 1293 (by decide +kernel) rfl, rfl, rfl, rfl⟩
theorem d_Md_fits_33 : decode m_Md_fits.2.1 33 = .ok (.invokevirtual 122, 3) := by decide +kernel
theorem d_Md_fits_36 : decode m_Md_fits.2.1 36 = .ok (.ireturn, 1) := by decide +kernel
theorem d_Md_fits_14 : decode m_Md_fits.2.1 14 = .ok (.aload_n 0, 1) := by decide +kernel
theorem d_Md_fits_15 : decode m_Md_fits.2.1 15 = .ok (.iload 4, 2) := by decide +kernel
theorem d_Md_fits_17 : decode m_Md_fits.2.1 17 = .ok (.invokevirtual 118, 3) := by decide +kernel
theorem d_Md_fits_20 : decode m_Md_fits.2.1 20 = .ok (.ireturn, 1) := by decide +kernel
theorem d_Md_wrongSeen_0 : decode m_Md_wrongSeen.2.1 0 = .ok (.iload_n 1, 1) := by decide +kernel
theorem d_Md_wrongSeen_1 : decode m_Md_wrongSeen.2.1 1 = .ok (.invokestatic 129, 3) := by decide +kernel
theorem d_Md_wrongSeen_4 : decode m_Md_wrongSeen.2.1 4 = .ok (.ifCond .eq 27, 3) := by decide +kernel
theorem d_Md_wrongSeen_31 : decode m_Md_wrongSeen.2.1 31 = .ok (.iconst 1, 1) := by decide +kernel
theorem d_Md_wrongSeen_32 : decode m_Md_wrongSeen.2.1 32 = .ok (.ireturn, 1) := by decide +kernel
theorem d_Md_wrongSeen_7 : decode m_Md_wrongSeen.2.1 7 = .ok (.iload_n 2, 1) := by decide +kernel
theorem d_Md_wrongSeen_8 : decode m_Md_wrongSeen.2.1 8 = .ok (.i2l, 1) := by decide +kernel
theorem d_Md_wrongSeen_9 : decode m_Md_wrongSeen.2.1 9 = .ok (.lconst 0, 1) := by decide +kernel
theorem d_Md_wrongSeen_10 : decode m_Md_wrongSeen.2.1 10 = .ok (.ldc2_w 436, 3) := by decide +kernel
theorem cl_Md_436 : Cond.constantLong "MaypoleGreenModel" 436 (20) ∈ aw_T := aw_in 1856 (by decide +kernel) rfl
theorem d_Md_wrongSeen_13 : decode m_Md_wrongSeen.2.1 13 = .ok (.invokestatic 372, 3) := by decide +kernel
theorem d_Md_wrongSeen_16 : decode m_Md_wrongSeen.2.1 16 = .ok (.ifCond .eq 15, 3) := by decide +kernel
theorem d_Md_wrongSeen_19 : decode m_Md_wrongSeen.2.1 19 = .ok (.iload_n 3, 1) := by decide +kernel
theorem d_Md_wrongSeen_20 : decode m_Md_wrongSeen.2.1 20 = .ok (.i2l, 1) := by decide +kernel
theorem d_Md_wrongSeen_21 : decode m_Md_wrongSeen.2.1 21 = .ok (.lconst 0, 1) := by decide +kernel
theorem d_Md_wrongSeen_22 : decode m_Md_wrongSeen.2.1 22 = .ok (.ldc2_w 438, 3) := by decide +kernel
theorem cl_Md_438 : Cond.constantLong "MaypoleGreenModel" 438 (4) ∈ aw_T := aw_in 1857 (by decide +kernel) rfl
theorem d_Md_wrongSeen_25 : decode m_Md_wrongSeen.2.1 25 = .ok (.invokestatic 372, 3) := by decide +kernel
theorem d_Md_wrongSeen_28 : decode m_Md_wrongSeen.2.1 28 = .ok (.ifCond .ne 5, 3) := by decide +kernel
theorem d_Md_wrongSeen_33 : decode m_Md_wrongSeen.2.1 33 = .ok (.aload_n 0, 1) := by decide +kernel
theorem d_Md_wrongSeen_34 : decode m_Md_wrongSeen.2.1 34 = .ok (.getfield 24, 3) := by decide +kernel
theorem d_Md_wrongSeen_37 : decode m_Md_wrongSeen.2.1 37 = .ok (.iload_n 1, 1) := by decide +kernel
theorem d_Md_wrongSeen_38 : decode m_Md_wrongSeen.2.1 38 = .ok (.iaload, 1) := by decide +kernel
theorem d_Md_wrongSeen_39 : decode m_Md_wrongSeen.2.1 39 = .ok (.iconst (-1), 1) := by decide +kernel
theorem d_Md_wrongSeen_40 : decode m_Md_wrongSeen.2.1 40 = .ok (.if_icmp .ne 5, 3) := by decide +kernel
theorem d_Md_wrongSeen_45 : decode m_Md_wrongSeen.2.1 45 = .ok (.aload_n 0, 1) := by decide +kernel
theorem d_Md_wrongSeen_46 : decode m_Md_wrongSeen.2.1 46 = .ok (.getfield 24, 3) := by decide +kernel
theorem d_Md_wrongSeen_49 : decode m_Md_wrongSeen.2.1 49 = .ok (.iload_n 1, 1) := by decide +kernel
theorem d_Md_wrongSeen_50 : decode m_Md_wrongSeen.2.1 50 = .ok (.iaload, 1) := by decide +kernel
theorem d_Md_wrongSeen_51 : decode m_Md_wrongSeen.2.1 51 = .ok (.iconst 2, 1) := by decide +kernel
theorem d_Md_wrongSeen_52 : decode m_Md_wrongSeen.2.1 52 = .ok (.iload_n 2, 1) := by decide +kernel
theorem d_Md_wrongSeen_53 : decode m_Md_wrongSeen.2.1 53 = .ok (.imul, 1) := by decide +kernel
theorem d_Md_wrongSeen_54 : decode m_Md_wrongSeen.2.1 54 = .ok (.if_icmp .ge 5, 3) := by decide +kernel
theorem d_Md_wrongSeen_59 : decode m_Md_wrongSeen.2.1 59 = .ok (.iconst 0, 1) := by decide +kernel
theorem d_Md_wrongSeen_60 : decode m_Md_wrongSeen.2.1 60 = .ok (.istore 4, 2) := by decide +kernel
theorem d_Md_wrongSeen_57 : decode m_Md_wrongSeen.2.1 57 = .ok (.iconst 3, 1) := by decide +kernel
theorem d_Md_wrongSeen_58 : decode m_Md_wrongSeen.2.1 58 = .ok (.ireturn, 1) := by decide +kernel
theorem d_Md_wrongSeen_43 : decode m_Md_wrongSeen.2.1 43 = .ok (.iconst 2, 1) := by decide +kernel
theorem d_Md_wrongSeen_44 : decode m_Md_wrongSeen.2.1 44 = .ok (.ireturn, 1) := by decide +kernel
theorem d_Md_wrongSeen_62 : decode m_Md_wrongSeen.2.1 62 = .ok (.iload 4, 2) := by decide +kernel
theorem d_Md_wrongSeen_64 : decode m_Md_wrongSeen.2.1 64 = .ok (.iload_n 2, 1) := by decide +kernel
theorem d_Md_wrongSeen_65 : decode m_Md_wrongSeen.2.1 65 = .ok (.if_icmp .ge 63, 3) := by decide +kernel
theorem d_Md_wrongSeen_128 : decode m_Md_wrongSeen.2.1 128 = .ok (.iconst 0, 1) := by decide +kernel
theorem d_Md_wrongSeen_129 : decode m_Md_wrongSeen.2.1 129 = .ok (.ireturn, 1) := by decide +kernel
theorem d_Md_wrongSeen_68 : decode m_Md_wrongSeen.2.1 68 = .ok (.bipush 60, 2) := by decide +kernel
theorem d_Md_wrongSeen_70 : decode m_Md_wrongSeen.2.1 70 = .ok (.iload_n 1, 1) := by decide +kernel
theorem d_Md_wrongSeen_71 : decode m_Md_wrongSeen.2.1 71 = .ok (.imul, 1) := by decide +kernel
theorem d_Md_wrongSeen_72 : decode m_Md_wrongSeen.2.1 72 = .ok (.iconst 2, 1) := by decide +kernel
theorem d_Md_wrongSeen_73 : decode m_Md_wrongSeen.2.1 73 = .ok (.iload 4, 2) := by decide +kernel
theorem d_Md_wrongSeen_75 : decode m_Md_wrongSeen.2.1 75 = .ok (.imul, 1) := by decide +kernel
theorem d_Md_wrongSeen_76 : decode m_Md_wrongSeen.2.1 76 = .ok (.iadd, 1) := by decide +kernel
theorem d_Md_wrongSeen_77 : decode m_Md_wrongSeen.2.1 77 = .ok (.istore 5, 2) := by decide +kernel
theorem d_Md_wrongSeen_79 : decode m_Md_wrongSeen.2.1 79 = .ok (.aload_n 0, 1) := by decide +kernel
theorem d_Md_wrongSeen_80 : decode m_Md_wrongSeen.2.1 80 = .ok (.getfield 27, 3) := by decide +kernel
theorem d_Md_wrongSeen_83 : decode m_Md_wrongSeen.2.1 83 = .ok (.iload 5, 2) := by decide +kernel
theorem d_Md_wrongSeen_85 : decode m_Md_wrongSeen.2.1 85 = .ok (.laload, 1) := by decide +kernel
theorem d_Md_wrongSeen_86 : decode m_Md_wrongSeen.2.1 86 = .ok (.lconst 0, 1) := by decide +kernel
theorem d_Md_wrongSeen_87 : decode m_Md_wrongSeen.2.1 87 = .ok (.aload_n 0, 1) := by decide +kernel
theorem d_Md_wrongSeen_88 : decode m_Md_wrongSeen.2.1 88 = .ok (.iconst 0, 1) := by decide +kernel
theorem d_Md_wrongSeen_89 : decode m_Md_wrongSeen.2.1 89 = .ok (.invokevirtual 260, 3) := by decide +kernel
theorem d_Md_wrongSeen_92 : decode m_Md_wrongSeen.2.1 92 = .ok (.i2l, 1) := by decide +kernel
theorem d_Md_wrongSeen_93 : decode m_Md_wrongSeen.2.1 93 = .ok (.lconst 1, 1) := by decide +kernel
theorem d_Md_wrongSeen_94 : decode m_Md_wrongSeen.2.1 94 = .ok (.lsub, 1) := by decide +kernel
theorem d_Md_wrongSeen_95 : decode m_Md_wrongSeen.2.1 95 = .ok (.invokestatic 372, 3) := by decide +kernel
theorem d_Md_wrongSeen_98 : decode m_Md_wrongSeen.2.1 98 = .ok (.ifCond .eq 22, 3) := by decide +kernel
theorem d_Md_wrongSeen_120 : decode m_Md_wrongSeen.2.1 120 = .ok (.iconst 5, 1) := by decide +kernel
theorem d_Md_wrongSeen_121 : decode m_Md_wrongSeen.2.1 121 = .ok (.ireturn, 1) := by decide +kernel
theorem d_Md_wrongSeen_101 : decode m_Md_wrongSeen.2.1 101 = .ok (.aload_n 0, 1) := by decide +kernel
theorem d_Md_wrongSeen_102 : decode m_Md_wrongSeen.2.1 102 = .ok (.getfield 27, 3) := by decide +kernel
theorem d_Md_wrongSeen_105 : decode m_Md_wrongSeen.2.1 105 = .ok (.iload 5, 2) := by decide +kernel
theorem d_Md_wrongSeen_107 : decode m_Md_wrongSeen.2.1 107 = .ok (.iconst 1, 1) := by decide +kernel
theorem d_Md_wrongSeen_108 : decode m_Md_wrongSeen.2.1 108 = .ok (.iadd, 1) := by decide +kernel
theorem d_Md_wrongSeen_109 : decode m_Md_wrongSeen.2.1 109 = .ok (.laload, 1) := by decide +kernel
theorem d_Md_wrongSeen_110 : decode m_Md_wrongSeen.2.1 110 = .ok (.lconst 0, 1) := by decide +kernel
theorem d_Md_wrongSeen_111 : decode m_Md_wrongSeen.2.1 111 = .ok (.ldc2_w 440, 3) := by decide +kernel
theorem cl_Md_440 : Cond.constantLong "MaypoleGreenModel" 440 (6) ∈ aw_T := aw_in 1858 (by decide +kernel) rfl
theorem d_Md_wrongSeen_114 : decode m_Md_wrongSeen.2.1 114 = .ok (.invokestatic 372, 3) := by decide +kernel
theorem d_Md_wrongSeen_117 : decode m_Md_wrongSeen.2.1 117 = .ok (.ifCond .ne 5, 3) := by decide +kernel
theorem d_Md_wrongSeen_122 : decode m_Md_wrongSeen.2.1 122 = .ok (.iinc 4 1, 3) := by decide +kernel
theorem d_Md_wrongSeen_125 : decode m_Md_wrongSeen.2.1 125 = .ok (.goto (-63), 3) := by decide +kernel
theorem d_Md_laysRowsSeen_0 : decode m_Md_laysRowsSeen.2.1 0 = .ok (.aload_n 0, 1) := by decide +kernel
theorem d_Md_laysRowsSeen_1 : decode m_Md_laysRowsSeen.2.1 1 = .ok (.iconst 0, 1) := by decide +kernel
theorem d_Md_laysRowsSeen_2 : decode m_Md_laysRowsSeen.2.1 2 = .ok (.putfield 442, 3) := by decide +kernel
theorem d_Md_laysRowsSeen_5 : decode m_Md_laysRowsSeen.2.1 5 = .ok (.iconst 0, 1) := by decide +kernel
theorem d_Md_laysRowsSeen_6 : decode m_Md_laysRowsSeen.2.1 6 = .ok (.istore 4, 2) := by decide +kernel
theorem d_Md_laysRowsSeen_8 : decode m_Md_laysRowsSeen.2.1 8 = .ok (.iload 4, 2) := by decide +kernel
theorem d_Md_laysRowsSeen_10 : decode m_Md_laysRowsSeen.2.1 10 = .ok (.bipush 49, 2) := by decide +kernel
theorem d_Md_laysRowsSeen_12 : decode m_Md_laysRowsSeen.2.1 12 = .ok (.if_icmp .ge 17, 3) := by decide +kernel
theorem d_Md_laysRowsSeen_29 : decode m_Md_laysRowsSeen.2.1 29 = .ok (.iload_n 3, 1) := by decide +kernel
theorem d_Md_laysRowsSeen_30 : decode m_Md_laysRowsSeen.2.1 30 = .ok (.ifCond .ne 11, 3) := by decide +kernel
theorem d_Md_laysRowsSeen_41 : decode m_Md_laysRowsSeen.2.1 41 = .ok (.iconst 0, 1) := by decide +kernel
theorem d_Md_laysRowsSeen_42 : decode m_Md_laysRowsSeen.2.1 42 = .ok (.istore 4, 2) := by decide +kernel
theorem d_Md_laysRowsSeen_44 : decode m_Md_laysRowsSeen.2.1 44 = .ok (.aload_n 0, 1) := by decide +kernel
theorem d_Md_laysRowsSeen_45 : decode m_Md_laysRowsSeen.2.1 45 = .ok (.getfield 75, 3) := by decide +kernel
theorem f_Md_75 : aw_F "MaypoleGreenModel" 75 11 36 true := ⟨cR11, cT11, 52, fun k => cY11.getD k .int, rfl, ci11, cy11, cn11, rfl, by decide, aw_in 1290 (by decide +kernel) rfl, rfl, rfl, rfl⟩
theorem d_Md_laysRowsSeen_48 : decode m_Md_laysRowsSeen.2.1 48 = .ok (.iconst 0, 1) := by decide +kernel
theorem d_Md_laysRowsSeen_49 : decode m_Md_laysRowsSeen.2.1 49 = .ok (.iconst (-1), 1) := by decide +kernel
theorem d_Md_laysRowsSeen_50 : decode m_Md_laysRowsSeen.2.1 50 = .ok (.iastore, 1) := by decide +kernel
theorem d_Md_laysRowsSeen_51 : decode m_Md_laysRowsSeen.2.1 51 = .ok (.aload_n 0, 1) := by decide +kernel
theorem d_Md_laysRowsSeen_52 : decode m_Md_laysRowsSeen.2.1 52 = .ok (.iconst 0, 1) := by decide +kernel
theorem d_Md_laysRowsSeen_53 : decode m_Md_laysRowsSeen.2.1 53 = .ok (.invokestatic 448, 3) := by decide +kernel
abbrev m_Md_levelAt : aw_MI := (⟨"MaypoleGreenModel", "levelAt", "(I)I"⟩, prog_14_method_112_code, 1, some .int)
theorem lk_Md_448 : Cond.methodLink "MaypoleGreenModel" 448 m_Md_levelAt.1 ∈ aw_T := aw_in 1867 (by decide +kernel) rfl
theorem k_Md_levelAt : aw_K m_Md_levelAt 1 := ⟨aw_in 1869 (by decide +kernel) rfl, aw_in 16 (by decide +kernel) rfl, ⟨by decide, by decide, by decide +kernel⟩, by decide, by decide +kernel⟩
theorem st_Md_levelAt : Cond.static m_Md_levelAt.1 ∈ aw_T := aw_in 1868 (by decide +kernel) rfl
theorem d_Md_laysRowsSeen_56 : decode m_Md_laysRowsSeen.2.1 56 = .ok (.invokevirtual 451, 3) := by decide +kernel
abbrev m_Md_keeps : aw_MI := (⟨"MaypoleGreenModel", "keeps", "(I)V"⟩, prog_14_method_113_code, 3, none)
theorem lk_Md_451 : Cond.methodLink "MaypoleGreenModel" 451 m_Md_keeps.1 ∈ aw_T := aw_in 1870 (by decide +kernel) rfl
theorem k_Md_keeps : aw_K m_Md_keeps 1 := ⟨aw_in 1873 (by decide +kernel) rfl, aw_in 16 (by decide +kernel) rfl, ⟨by decide, by decide, by decide +kernel⟩, by decide, by decide +kernel⟩
theorem in_Md_keeps : Cond.instanceMethod m_Md_keeps.1 ∈ aw_T := aw_in 1872 (by decide +kernel) rfl
theorem se_Md_keeps : Cond.selects m_Md_keeps.1.cls m_Md_keeps.1 m_Md_keeps.1 ∈ aw_T := aw_inP 127 (by decide +kernel) rfl
theorem d_Md_laysRowsSeen_33 : decode m_Md_laysRowsSeen.2.1 33 = .ok (.aload_n 0, 1) := by decide +kernel
theorem d_Md_laysRowsSeen_34 : decode m_Md_laysRowsSeen.2.1 34 = .ok (.iload_n 1, 1) := by decide +kernel
theorem d_Md_laysRowsSeen_35 : decode m_Md_laysRowsSeen.2.1 35 = .ok (.iload_n 2, 1) := by decide +kernel
theorem d_Md_laysRowsSeen_36 : decode m_Md_laysRowsSeen.2.1 36 = .ok (.iconst 0, 1) := by decide +kernel
theorem d_Md_laysRowsSeen_37 : decode m_Md_laysRowsSeen.2.1 37 = .ok (.invokevirtual 445, 3) := by decide +kernel
abbrev m_Md_counts : aw_MI := (⟨"MaypoleGreenModel", "counts", "(III)V"⟩, prog_14_method_116_code, 6, none)
theorem lk_Md_445 : Cond.methodLink "MaypoleGreenModel" 445 m_Md_counts.1 ∈ aw_T := aw_in 1863 (by decide +kernel) rfl
theorem k_Md_counts : aw_K m_Md_counts 3 := ⟨aw_in 1866 (by decide +kernel) rfl, aw_in 16 (by decide +kernel) rfl, ⟨by decide, by decide, by decide +kernel⟩, by decide, by decide +kernel⟩
theorem in_Md_counts : Cond.instanceMethod m_Md_counts.1 ∈ aw_T := aw_in 1865 (by decide +kernel) rfl
theorem se_Md_counts : Cond.selects m_Md_counts.1.cls m_Md_counts.1 m_Md_counts.1 ∈ aw_T := aw_inP 126 (by decide +kernel) rfl
theorem d_Md_laysRowsSeen_40 : decode m_Md_laysRowsSeen.2.1 40 = .ok (.return_, 1) := by decide +kernel
theorem d_Md_laysRowsSeen_15 : decode m_Md_laysRowsSeen.2.1 15 = .ok (.aload_n 0, 1) := by decide +kernel
theorem d_Md_laysRowsSeen_16 : decode m_Md_laysRowsSeen.2.1 16 = .ok (.getfield 81, 3) := by decide +kernel
theorem f_Md_81 : aw_F "MaypoleGreenModel" 81 11 38 true := ⟨cR11, cT11, 52, fun k => cY11.getD k .int, rfl, ci11, cy11, cn11, rfl, by decide, aw_in 1292 (by decide +kernel) rfl, rfl, rfl, rfl⟩
theorem d_Md_laysRowsSeen_19 : decode m_Md_laysRowsSeen.2.1 19 = .ok (.iload 4, 2) := by decide +kernel
theorem d_Md_laysRowsSeen_21 : decode m_Md_laysRowsSeen.2.1 21 = .ok (.iconst 0, 1) := by decide +kernel
theorem d_Md_laysRowsSeen_22 : decode m_Md_laysRowsSeen.2.1 22 = .ok (.iastore, 1) := by decide +kernel
theorem d_Md_laysRowsSeen_23 : decode m_Md_laysRowsSeen.2.1 23 = .ok (.iinc 4 1, 3) := by decide +kernel
theorem d_Md_laysRowsSeen_26 : decode m_Md_laysRowsSeen.2.1 26 = .ok (.goto (-18), 3) := by decide +kernel
theorem d_Md_laysRowsSeen_59 : decode m_Md_laysRowsSeen.2.1 59 = .ok (.iload 4, 2) := by decide +kernel
theorem d_Md_laysRowsSeen_61 : decode m_Md_laysRowsSeen.2.1 61 = .ok (.ifCond .lt 110, 3) := by decide +kernel
theorem d_Md_laysRowsSeen_171 : decode m_Md_laysRowsSeen.2.1 171 = .ok (.aload_n 0, 1) := by decide +kernel
theorem d_Md_laysRowsSeen_172 : decode m_Md_laysRowsSeen.2.1 172 = .ok (.iconst 0, 1) := by decide +kernel
theorem d_Md_laysRowsSeen_173 : decode m_Md_laysRowsSeen.2.1 173 = .ok (.invokestatic 448, 3) := by decide +kernel
theorem d_Md_laysRowsSeen_176 : decode m_Md_laysRowsSeen.2.1 176 = .ok (.invokevirtual 454, 3) := by decide +kernel
abbrev m_Md_restores : aw_MI := (⟨"MaypoleGreenModel", "restores", "(I)V"⟩, prog_14_method_114_code, 3, none)
theorem lk_Md_454 : Cond.methodLink "MaypoleGreenModel" 454 m_Md_restores.1 ∈ aw_T := aw_in 1874 (by decide +kernel) rfl
theorem k_Md_restores : aw_K m_Md_restores 1 := ⟨aw_in 1877 (by decide +kernel) rfl, aw_in 16 (by decide +kernel) rfl, ⟨by decide, by decide, by decide +kernel⟩, by decide, by decide +kernel⟩
theorem in_Md_restores : Cond.instanceMethod m_Md_restores.1 ∈ aw_T := aw_in 1876 (by decide +kernel) rfl
theorem se_Md_restores : Cond.selects m_Md_restores.1.cls m_Md_restores.1 m_Md_restores.1 ∈ aw_T := aw_inP 128 (by decide +kernel) rfl
theorem d_Md_laysRowsSeen_179 : decode m_Md_laysRowsSeen.2.1 179 = .ok (.return_, 1) := by decide +kernel
theorem d_Md_laysRowsSeen_64 : decode m_Md_laysRowsSeen.2.1 64 = .ok (.aload_n 0, 1) := by decide +kernel
theorem d_Md_laysRowsSeen_65 : decode m_Md_laysRowsSeen.2.1 65 = .ok (.iload 4, 2) := by decide +kernel
theorem d_Md_laysRowsSeen_67 : decode m_Md_laysRowsSeen.2.1 67 = .ok (.invokestatic 448, 3) := by decide +kernel
theorem d_Md_laysRowsSeen_70 : decode m_Md_laysRowsSeen.2.1 70 = .ok (.invokevirtual 454, 3) := by decide +kernel
theorem d_Md_laysRowsSeen_73 : decode m_Md_laysRowsSeen.2.1 73 = .ok (.aload_n 0, 1) := by decide +kernel
theorem d_Md_laysRowsSeen_74 : decode m_Md_laysRowsSeen.2.1 74 = .ok (.getfield 75, 3) := by decide +kernel
theorem d_Md_laysRowsSeen_77 : decode m_Md_laysRowsSeen.2.1 77 = .ok (.iload 4, 2) := by decide +kernel
theorem d_Md_laysRowsSeen_79 : decode m_Md_laysRowsSeen.2.1 79 = .ok (.dup2, 1) := by decide +kernel
theorem d_Md_laysRowsSeen_80 : decode m_Md_laysRowsSeen.2.1 80 = .ok (.iaload, 1) := by decide +kernel
theorem d_Md_laysRowsSeen_81 : decode m_Md_laysRowsSeen.2.1 81 = .ok (.iconst 1, 1) := by decide +kernel
theorem d_Md_laysRowsSeen_82 : decode m_Md_laysRowsSeen.2.1 82 = .ok (.iadd, 1) := by decide +kernel
theorem d_Md_laysRowsSeen_83 : decode m_Md_laysRowsSeen.2.1 83 = .ok (.iastore, 1) := by decide +kernel
theorem d_Md_laysRowsSeen_84 : decode m_Md_laysRowsSeen.2.1 84 = .ok (.aload_n 0, 1) := by decide +kernel
theorem d_Md_laysRowsSeen_85 : decode m_Md_laysRowsSeen.2.1 85 = .ok (.getfield 75, 3) := by decide +kernel
theorem d_Md_laysRowsSeen_88 : decode m_Md_laysRowsSeen.2.1 88 = .ok (.iload 4, 2) := by decide +kernel
theorem d_Md_laysRowsSeen_90 : decode m_Md_laysRowsSeen.2.1 90 = .ok (.iaload, 1) := by decide +kernel
theorem d_Md_laysRowsSeen_91 : decode m_Md_laysRowsSeen.2.1 91 = .ok (.istore 5, 2) := by decide +kernel
theorem d_Md_laysRowsSeen_93 : decode m_Md_laysRowsSeen.2.1 93 = .ok (.iload 5, 2) := by decide +kernel
theorem d_Md_laysRowsSeen_95 : decode m_Md_laysRowsSeen.2.1 95 = .ok (.iconst 2, 1) := by decide +kernel
theorem d_Md_laysRowsSeen_96 : decode m_Md_laysRowsSeen.2.1 96 = .ok (.aload_n 0, 1) := by decide +kernel
theorem d_Md_laysRowsSeen_97 : decode m_Md_laysRowsSeen.2.1 97 = .ok (.iconst 0, 1) := by decide +kernel
theorem d_Md_laysRowsSeen_98 : decode m_Md_laysRowsSeen.2.1 98 = .ok (.invokevirtual 260, 3) := by decide +kernel
theorem d_Md_laysRowsSeen_101 : decode m_Md_laysRowsSeen.2.1 101 = .ok (.imul, 1) := by decide +kernel
theorem d_Md_laysRowsSeen_102 : decode m_Md_laysRowsSeen.2.1 102 = .ok (.if_icmp .ne 9, 3) := by decide +kernel
theorem d_Md_laysRowsSeen_111 : decode m_Md_laysRowsSeen.2.1 111 = .ok (.aload_n 0, 1) := by decide +kernel
theorem d_Md_laysRowsSeen_112 : decode m_Md_laysRowsSeen.2.1 112 = .ok (.iconst 0, 1) := by decide +kernel
theorem d_Md_laysRowsSeen_113 : decode m_Md_laysRowsSeen.2.1 113 = .ok (.iload 5, 2) := by decide +kernel
theorem d_Md_laysRowsSeen_115 : decode m_Md_laysRowsSeen.2.1 115 = .ok (.iconst 2, 1) := by decide +kernel
theorem d_Md_laysRowsSeen_116 : decode m_Md_laysRowsSeen.2.1 116 = .ok (.idiv, 1) := by decide +kernel
theorem d_Md_laysRowsSeen_117 : decode m_Md_laysRowsSeen.2.1 117 = .ok (.iload 5, 2) := by decide +kernel
theorem d_Md_laysRowsSeen_119 : decode m_Md_laysRowsSeen.2.1 119 = .ok (.iconst 2, 1) := by decide +kernel
theorem d_Md_laysRowsSeen_120 : decode m_Md_laysRowsSeen.2.1 120 = .ok (.irem, 1) := by decide +kernel
theorem d_Md_laysRowsSeen_121 : decode m_Md_laysRowsSeen.2.1 121 = .ok (.invokevirtual 269, 3) := by decide +kernel
theorem d_Md_laysRowsSeen_124 : decode m_Md_laysRowsSeen.2.1 124 = .ok (.ifCond .ne 6, 3) := by decide +kernel
theorem d_Md_laysRowsSeen_130 : decode m_Md_laysRowsSeen.2.1 130 = .ok (.iload 4, 2) := by decide +kernel
theorem d_Md_laysRowsSeen_132 : decode m_Md_laysRowsSeen.2.1 132 = .ok (.iconst 1, 1) := by decide +kernel
theorem d_Md_laysRowsSeen_133 : decode m_Md_laysRowsSeen.2.1 133 = .ok (.iadd, 1) := by decide +kernel
theorem d_Md_laysRowsSeen_134 : decode m_Md_laysRowsSeen.2.1 134 = .ok (.iload_n 3, 1) := by decide +kernel
theorem d_Md_laysRowsSeen_135 : decode m_Md_laysRowsSeen.2.1 135 = .ok (.if_icmp .ne 13, 3) := by decide +kernel
theorem d_Md_laysRowsSeen_148 : decode m_Md_laysRowsSeen.2.1 148 = .ok (.iinc 4 1, 3) := by decide +kernel
theorem d_Md_laysRowsSeen_151 : decode m_Md_laysRowsSeen.2.1 151 = .ok (.aload_n 0, 1) := by decide +kernel
theorem d_Md_laysRowsSeen_152 : decode m_Md_laysRowsSeen.2.1 152 = .ok (.getfield 75, 3) := by decide +kernel
theorem d_Md_laysRowsSeen_155 : decode m_Md_laysRowsSeen.2.1 155 = .ok (.iload 4, 2) := by decide +kernel
theorem d_Md_laysRowsSeen_157 : decode m_Md_laysRowsSeen.2.1 157 = .ok (.iconst (-1), 1) := by decide +kernel
theorem d_Md_laysRowsSeen_158 : decode m_Md_laysRowsSeen.2.1 158 = .ok (.iastore, 1) := by decide +kernel
theorem d_Md_laysRowsSeen_159 : decode m_Md_laysRowsSeen.2.1 159 = .ok (.aload_n 0, 1) := by decide +kernel
theorem d_Md_laysRowsSeen_160 : decode m_Md_laysRowsSeen.2.1 160 = .ok (.iload 4, 2) := by decide +kernel
theorem d_Md_laysRowsSeen_162 : decode m_Md_laysRowsSeen.2.1 162 = .ok (.invokestatic 448, 3) := by decide +kernel
theorem d_Md_laysRowsSeen_165 : decode m_Md_laysRowsSeen.2.1 165 = .ok (.invokevirtual 451, 3) := by decide +kernel
theorem d_Md_laysRowsSeen_168 : decode m_Md_laysRowsSeen.2.1 168 = .ok (.goto (-109), 3) := by decide +kernel
theorem d_Md_laysRowsSeen_138 : decode m_Md_laysRowsSeen.2.1 138 = .ok (.aload_n 0, 1) := by decide +kernel
theorem d_Md_laysRowsSeen_139 : decode m_Md_laysRowsSeen.2.1 139 = .ok (.iload_n 1, 1) := by decide +kernel
theorem d_Md_laysRowsSeen_140 : decode m_Md_laysRowsSeen.2.1 140 = .ok (.iload_n 2, 1) := by decide +kernel
theorem d_Md_laysRowsSeen_141 : decode m_Md_laysRowsSeen.2.1 141 = .ok (.iload_n 3, 1) := by decide +kernel
theorem d_Md_laysRowsSeen_142 : decode m_Md_laysRowsSeen.2.1 142 = .ok (.invokevirtual 445, 3) := by decide +kernel
theorem d_Md_laysRowsSeen_145 : decode m_Md_laysRowsSeen.2.1 145 = .ok (.goto 23, 3) := by decide +kernel
theorem d_Md_laysRowsSeen_127 : decode m_Md_laysRowsSeen.2.1 127 = .ok (.goto (-68), 3) := by decide +kernel
theorem d_Md_laysRowsSeen_105 : decode m_Md_laysRowsSeen.2.1 105 = .ok (.iinc 4 (-1), 3) := by decide +kernel
theorem d_Md_laysRowsSeen_108 : decode m_Md_laysRowsSeen.2.1 108 = .ok (.goto (-49), 3) := by decide +kernel
theorem d_Md_counts_0 : decode m_Md_counts.2.1 0 = .ok (.iconst 0, 1) := by decide +kernel
theorem d_Md_counts_1 : decode m_Md_counts.2.1 1 = .ok (.istore 4, 2) := by decide +kernel
theorem d_Md_counts_3 : decode m_Md_counts.2.1 3 = .ok (.iload 4, 2) := by decide +kernel
theorem d_Md_counts_5 : decode m_Md_counts.2.1 5 = .ok (.iload_n 2, 1) := by decide +kernel
theorem d_Md_counts_6 : decode m_Md_counts.2.1 6 = .ok (.if_icmp .ge 47, 3) := by decide +kernel
theorem d_Md_counts_53 : decode m_Md_counts.2.1 53 = .ok (.iconst 0, 1) := by decide +kernel
theorem d_Md_counts_54 : decode m_Md_counts.2.1 54 = .ok (.istore 4, 2) := by decide +kernel
theorem d_Md_counts_9 : decode m_Md_counts.2.1 9 = .ok (.bipush 60, 2) := by decide +kernel
theorem d_Md_counts_11 : decode m_Md_counts.2.1 11 = .ok (.iload_n 1, 1) := by decide +kernel
theorem d_Md_counts_12 : decode m_Md_counts.2.1 12 = .ok (.imul, 1) := by decide +kernel
theorem d_Md_counts_13 : decode m_Md_counts.2.1 13 = .ok (.iconst 2, 1) := by decide +kernel
theorem d_Md_counts_14 : decode m_Md_counts.2.1 14 = .ok (.iload 4, 2) := by decide +kernel
theorem d_Md_counts_16 : decode m_Md_counts.2.1 16 = .ok (.imul, 1) := by decide +kernel
theorem d_Md_counts_17 : decode m_Md_counts.2.1 17 = .ok (.iadd, 1) := by decide +kernel
theorem d_Md_counts_18 : decode m_Md_counts.2.1 18 = .ok (.istore 5, 2) := by decide +kernel
theorem d_Md_counts_20 : decode m_Md_counts.2.1 20 = .ok (.aload_n 0, 1) := by decide +kernel
theorem d_Md_counts_21 : decode m_Md_counts.2.1 21 = .ok (.aload_n 0, 1) := by decide +kernel
theorem d_Md_counts_22 : decode m_Md_counts.2.1 22 = .ok (.getfield 27, 3) := by decide +kernel
theorem d_Md_counts_25 : decode m_Md_counts.2.1 25 = .ok (.iload 5, 2) := by decide +kernel
theorem d_Md_counts_27 : decode m_Md_counts.2.1 27 = .ok (.laload, 1) := by decide +kernel
theorem d_Md_counts_28 : decode m_Md_counts.2.1 28 = .ok (.l2i, 1) := by decide +kernel
theorem d_Md_counts_29 : decode m_Md_counts.2.1 29 = .ok (.invokevirtual 319, 3) := by decide +kernel
theorem d_Md_counts_32 : decode m_Md_counts.2.1 32 = .ok (.i2l, 1) := by decide +kernel
theorem d_Md_counts_33 : decode m_Md_counts.2.1 33 = .ok (.aload_n 0, 1) := by decide +kernel
theorem d_Md_counts_34 : decode m_Md_counts.2.1 34 = .ok (.getfield 27, 3) := by decide +kernel
theorem d_Md_counts_37 : decode m_Md_counts.2.1 37 = .ok (.iload 5, 2) := by decide +kernel
theorem d_Md_counts_39 : decode m_Md_counts.2.1 39 = .ok (.iconst 1, 1) := by decide +kernel
theorem d_Md_counts_40 : decode m_Md_counts.2.1 40 = .ok (.iadd, 1) := by decide +kernel
theorem d_Md_counts_41 : decode m_Md_counts.2.1 41 = .ok (.laload, 1) := by decide +kernel
theorem d_Md_counts_42 : decode m_Md_counts.2.1 42 = .ok (.lcmp, 1) := by decide +kernel
theorem d_Md_counts_43 : decode m_Md_counts.2.1 43 = .ok (.ifCond .eq 4, 3) := by decide +kernel
theorem d_Md_counts_47 : decode m_Md_counts.2.1 47 = .ok (.iinc 4 1, 3) := by decide +kernel
theorem d_Md_counts_50 : decode m_Md_counts.2.1 50 = .ok (.goto (-47), 3) := by decide +kernel
theorem d_Md_counts_46 : decode m_Md_counts.2.1 46 = .ok (.return_, 1) := by decide +kernel
theorem d_Md_counts_56 : decode m_Md_counts.2.1 56 = .ok (.iload 4, 2) := by decide +kernel
theorem d_Md_counts_58 : decode m_Md_counts.2.1 58 = .ok (.iload_n 3, 1) := by decide +kernel
theorem d_Md_counts_59 : decode m_Md_counts.2.1 59 = .ok (.if_icmp .ge 30, 3) := by decide +kernel
theorem d_Md_counts_89 : decode m_Md_counts.2.1 89 = .ok (.iconst 0, 1) := by decide +kernel
theorem d_Md_counts_90 : decode m_Md_counts.2.1 90 = .ok (.istore 4, 2) := by decide +kernel
theorem d_Md_counts_62 : decode m_Md_counts.2.1 62 = .ok (.aload_n 0, 1) := by decide +kernel
theorem d_Md_counts_63 : decode m_Md_counts.2.1 63 = .ok (.getfield 442, 3) := by decide +kernel
theorem d_Md_counts_66 : decode m_Md_counts.2.1 66 = .ok (.ifCond .ne 23, 3) := by decide +kernel
theorem d_Md_counts_69 : decode m_Md_counts.2.1 69 = .ok (.aload_n 0, 1) := by decide +kernel
theorem d_Md_counts_70 : decode m_Md_counts.2.1 70 = .ok (.getfield 78, 3) := by decide +kernel
theorem f_Md_78 : aw_F "MaypoleGreenModel" 78 11 37 true := ⟨cR11, cT11, 52, fun k => cY11.getD k .int, rfl, ci11, cy11, cn11, rfl, by decide, aw_in 1291 (by decide +kernel) rfl, rfl, rfl, rfl⟩
theorem d_Md_counts_73 : decode m_Md_counts.2.1 73 = .ok (.iload 4, 2) := by decide +kernel
theorem d_Md_counts_75 : decode m_Md_counts.2.1 75 = .ok (.aload_n 0, 1) := by decide +kernel
theorem d_Md_counts_76 : decode m_Md_counts.2.1 76 = .ok (.getfield 75, 3) := by decide +kernel
theorem d_Md_counts_79 : decode m_Md_counts.2.1 79 = .ok (.iload 4, 2) := by decide +kernel
theorem d_Md_counts_81 : decode m_Md_counts.2.1 81 = .ok (.iaload, 1) := by decide +kernel
theorem d_Md_counts_82 : decode m_Md_counts.2.1 82 = .ok (.iastore, 1) := by decide +kernel
theorem d_Md_counts_83 : decode m_Md_counts.2.1 83 = .ok (.iinc 4 1, 3) := by decide +kernel
theorem d_Md_counts_86 : decode m_Md_counts.2.1 86 = .ok (.goto (-30), 3) := by decide +kernel
theorem d_Md_counts_92 : decode m_Md_counts.2.1 92 = .ok (.iload 4, 2) := by decide +kernel
theorem d_Md_counts_94 : decode m_Md_counts.2.1 94 = .ok (.aload_n 0, 1) := by decide +kernel
theorem d_Md_counts_95 : decode m_Md_counts.2.1 95 = .ok (.iconst 0, 1) := by decide +kernel
theorem d_Md_counts_96 : decode m_Md_counts.2.1 96 = .ok (.invokevirtual 260, 3) := by decide +kernel
theorem d_Md_counts_99 : decode m_Md_counts.2.1 99 = .ok (.if_icmp .ge 30, 3) := by decide +kernel
theorem d_Md_counts_129 : decode m_Md_counts.2.1 129 = .ok (.aload_n 0, 1) := by decide +kernel
theorem d_Md_counts_130 : decode m_Md_counts.2.1 130 = .ok (.dup, 1) := by decide +kernel
theorem d_Md_counts_131 : decode m_Md_counts.2.1 131 = .ok (.getfield 442, 3) := by decide +kernel
theorem d_Md_counts_134 : decode m_Md_counts.2.1 134 = .ok (.iconst 1, 1) := by decide +kernel
theorem d_Md_counts_135 : decode m_Md_counts.2.1 135 = .ok (.iadd, 1) := by decide +kernel
theorem d_Md_counts_136 : decode m_Md_counts.2.1 136 = .ok (.putfield 442, 3) := by decide +kernel
theorem d_Md_counts_139 : decode m_Md_counts.2.1 139 = .ok (.return_, 1) := by decide +kernel
theorem d_Md_counts_102 : decode m_Md_counts.2.1 102 = .ok (.aload_n 0, 1) := by decide +kernel
theorem d_Md_counts_103 : decode m_Md_counts.2.1 103 = .ok (.getfield 81, 3) := by decide +kernel
theorem d_Md_counts_106 : decode m_Md_counts.2.1 106 = .ok (.bipush 7, 2) := by decide +kernel
theorem d_Md_counts_108 : decode m_Md_counts.2.1 108 = .ok (.iload 4, 2) := by decide +kernel
theorem d_Md_counts_110 : decode m_Md_counts.2.1 110 = .ok (.imul, 1) := by decide +kernel
theorem d_Md_counts_111 : decode m_Md_counts.2.1 111 = .ok (.aload_n 0, 1) := by decide +kernel
theorem d_Md_counts_112 : decode m_Md_counts.2.1 112 = .ok (.iload 4, 2) := by decide +kernel
theorem d_Md_counts_114 : decode m_Md_counts.2.1 114 = .ok (.invokevirtual 319, 3) := by decide +kernel
theorem d_Md_counts_117 : decode m_Md_counts.2.1 117 = .ok (.iadd, 1) := by decide +kernel
theorem d_Md_counts_118 : decode m_Md_counts.2.1 118 = .ok (.dup2, 1) := by decide +kernel
theorem d_Md_counts_119 : decode m_Md_counts.2.1 119 = .ok (.iaload, 1) := by decide +kernel
theorem d_Md_counts_120 : decode m_Md_counts.2.1 120 = .ok (.iconst 1, 1) := by decide +kernel
theorem d_Md_counts_121 : decode m_Md_counts.2.1 121 = .ok (.iadd, 1) := by decide +kernel
theorem d_Md_counts_122 : decode m_Md_counts.2.1 122 = .ok (.iastore, 1) := by decide +kernel
theorem d_Md_counts_123 : decode m_Md_counts.2.1 123 = .ok (.iinc 4 1, 3) := by decide +kernel
theorem d_Md_counts_126 : decode m_Md_counts.2.1 126 = .ok (.goto (-34), 3) := by decide +kernel
theorem d_Md_levelAt_0 : decode m_Md_levelAt.2.1 0 = .ok (.sipush 2944, 3) := by decide +kernel
theorem d_Md_levelAt_3 : decode m_Md_levelAt.2.1 3 = .ok (.sipush 184, 3) := by decide +kernel
theorem d_Md_levelAt_6 : decode m_Md_levelAt.2.1 6 = .ok (.iload_n 0, 1) := by decide +kernel
theorem d_Md_levelAt_7 : decode m_Md_levelAt.2.1 7 = .ok (.imul, 1) := by decide +kernel
theorem d_Md_levelAt_8 : decode m_Md_levelAt.2.1 8 = .ok (.iadd, 1) := by decide +kernel
theorem d_Md_levelAt_9 : decode m_Md_levelAt.2.1 9 = .ok (.ireturn, 1) := by decide +kernel
theorem d_Md_keeps_0 : decode m_Md_keeps.2.1 0 = .ok (.iconst 0, 1) := by decide +kernel
theorem d_Md_keeps_1 : decode m_Md_keeps.2.1 1 = .ok (.istore_n 2, 1) := by decide +kernel
theorem d_Md_keeps_2 : decode m_Md_keeps.2.1 2 = .ok (.iload_n 2, 1) := by decide +kernel
theorem d_Md_keeps_3 : decode m_Md_keeps.2.1 3 = .ok (.sipush 184, 3) := by decide +kernel
theorem d_Md_keeps_6 : decode m_Md_keeps.2.1 6 = .ok (.if_icmp .ge 23, 3) := by decide +kernel
theorem d_Md_keeps_29 : decode m_Md_keeps.2.1 29 = .ok (.return_, 1) := by decide +kernel
theorem d_Md_keeps_9 : decode m_Md_keeps.2.1 9 = .ok (.aload_n 0, 1) := by decide +kernel
theorem d_Md_keeps_10 : decode m_Md_keeps.2.1 10 = .ok (.getfield 7, 3) := by decide +kernel
theorem d_Md_keeps_13 : decode m_Md_keeps.2.1 13 = .ok (.iload_n 1, 1) := by decide +kernel
theorem d_Md_keeps_14 : decode m_Md_keeps.2.1 14 = .ok (.iload_n 2, 1) := by decide +kernel
theorem d_Md_keeps_15 : decode m_Md_keeps.2.1 15 = .ok (.iadd, 1) := by decide +kernel
theorem d_Md_keeps_16 : decode m_Md_keeps.2.1 16 = .ok (.aload_n 0, 1) := by decide +kernel
theorem d_Md_keeps_17 : decode m_Md_keeps.2.1 17 = .ok (.getfield 7, 3) := by decide +kernel
theorem d_Md_keeps_20 : decode m_Md_keeps.2.1 20 = .ok (.iload_n 2, 1) := by decide +kernel
theorem d_Md_keeps_21 : decode m_Md_keeps.2.1 21 = .ok (.iaload, 1) := by decide +kernel
theorem d_Md_keeps_22 : decode m_Md_keeps.2.1 22 = .ok (.iastore, 1) := by decide +kernel
theorem d_Md_keeps_23 : decode m_Md_keeps.2.1 23 = .ok (.iinc 2 1, 3) := by decide +kernel
theorem d_Md_keeps_26 : decode m_Md_keeps.2.1 26 = .ok (.goto (-24), 3) := by decide +kernel
theorem d_Md_restores_0 : decode m_Md_restores.2.1 0 = .ok (.iconst 0, 1) := by decide +kernel
theorem d_Md_restores_1 : decode m_Md_restores.2.1 1 = .ok (.istore_n 2, 1) := by decide +kernel
theorem d_Md_restores_2 : decode m_Md_restores.2.1 2 = .ok (.iload_n 2, 1) := by decide +kernel
theorem d_Md_restores_3 : decode m_Md_restores.2.1 3 = .ok (.sipush 184, 3) := by decide +kernel
theorem d_Md_restores_6 : decode m_Md_restores.2.1 6 = .ok (.if_icmp .ge 23, 3) := by decide +kernel
theorem d_Md_restores_29 : decode m_Md_restores.2.1 29 = .ok (.return_, 1) := by decide +kernel
theorem d_Md_restores_9 : decode m_Md_restores.2.1 9 = .ok (.aload_n 0, 1) := by decide +kernel
theorem d_Md_restores_10 : decode m_Md_restores.2.1 10 = .ok (.getfield 7, 3) := by decide +kernel
theorem d_Md_restores_13 : decode m_Md_restores.2.1 13 = .ok (.iload_n 2, 1) := by decide +kernel
theorem d_Md_restores_14 : decode m_Md_restores.2.1 14 = .ok (.aload_n 0, 1) := by decide +kernel
theorem d_Md_restores_15 : decode m_Md_restores.2.1 15 = .ok (.getfield 7, 3) := by decide +kernel
theorem d_Md_restores_18 : decode m_Md_restores.2.1 18 = .ok (.iload_n 1, 1) := by decide +kernel
theorem d_Md_restores_19 : decode m_Md_restores.2.1 19 = .ok (.iload_n 2, 1) := by decide +kernel
theorem d_Md_restores_20 : decode m_Md_restores.2.1 20 = .ok (.iadd, 1) := by decide +kernel
theorem d_Md_restores_21 : decode m_Md_restores.2.1 21 = .ok (.iaload, 1) := by decide +kernel
theorem d_Md_restores_22 : decode m_Md_restores.2.1 22 = .ok (.iastore, 1) := by decide +kernel
theorem d_Md_restores_23 : decode m_Md_restores.2.1 23 = .ok (.iinc 2 1, 3) := by decide +kernel
theorem d_Md_restores_26 : decode m_Md_restores.2.1 26 = .ok (.goto (-24), 3) := by decide +kernel
abbrev m_Md_fitsAt : aw_MI := (⟨"MaypoleGreenModel", "fitsAt", "(IIII)I"⟩, prog_14_method_119_code, 6, some .int)
theorem k_Md_fitsAt : aw_K m_Md_fitsAt 4 := ⟨aw_in 1881 (by decide +kernel) rfl, aw_in 16 (by decide +kernel) rfl, ⟨by decide, by decide, by decide +kernel⟩, by decide, by decide +kernel⟩
theorem d_Md_fitsAt_0 : decode m_Md_fitsAt.2.1 0 = .ok (.iload 4, 2) := by decide +kernel
theorem d_Md_fitsAt_2 : decode m_Md_fitsAt.2.1 2 = .ok (.ifCond .ge 7, 3) := by decide +kernel
theorem d_Md_fitsAt_9 : decode m_Md_fitsAt.2.1 9 = .ok (.aload_n 0, 1) := by decide +kernel
theorem d_Md_fitsAt_10 : decode m_Md_fitsAt.2.1 10 = .ok (.iload_n 1, 1) := by decide +kernel
theorem d_Md_fitsAt_11 : decode m_Md_fitsAt.2.1 11 = .ok (.iload_n 2, 1) := by decide +kernel
theorem d_Md_fitsAt_12 : decode m_Md_fitsAt.2.1 12 = .ok (.iload_n 3, 1) := by decide +kernel
theorem d_Md_fitsAt_13 : decode m_Md_fitsAt.2.1 13 = .ok (.invokevirtual 457, 3) := by decide +kernel
theorem d_Md_fitsAt_16 : decode m_Md_fitsAt.2.1 16 = .ok (.istore 5, 2) := by decide +kernel
theorem d_Md_fitsAt_18 : decode m_Md_fitsAt.2.1 18 = .ok (.iload 5, 2) := by decide +kernel
theorem d_Md_fitsAt_20 : decode m_Md_fitsAt.2.1 20 = .ok (.ifCond .le 10, 3) := by decide +kernel
theorem d_Md_fitsAt_30 : decode m_Md_fitsAt.2.1 30 = .ok (.aload_n 0, 1) := by decide +kernel
theorem d_Md_fitsAt_31 : decode m_Md_fitsAt.2.1 31 = .ok (.iload_n 1, 1) := by decide +kernel
theorem d_Md_fitsAt_32 : decode m_Md_fitsAt.2.1 32 = .ok (.iload_n 2, 1) := by decide +kernel
theorem d_Md_fitsAt_33 : decode m_Md_fitsAt.2.1 33 = .ok (.iload_n 3, 1) := by decide +kernel
theorem d_Md_fitsAt_34 : decode m_Md_fitsAt.2.1 34 = .ok (.invokevirtual 460, 3) := by decide +kernel
theorem d_Md_fitsAt_37 : decode m_Md_fitsAt.2.1 37 = .ok (.aload_n 0, 1) := by decide +kernel
theorem d_Md_fitsAt_38 : decode m_Md_fitsAt.2.1 38 = .ok (.getfield 442, 3) := by decide +kernel
theorem d_Md_fitsAt_41 : decode m_Md_fitsAt.2.1 41 = .ok (.ifCond .eq 9, 3) := by decide +kernel
theorem d_Md_fitsAt_50 : decode m_Md_fitsAt.2.1 50 = .ok (.aload_n 0, 1) := by decide +kernel
theorem d_Md_fitsAt_51 : decode m_Md_fitsAt.2.1 51 = .ok (.bipush 6, 2) := by decide +kernel
theorem d_Md_fitsAt_53 : decode m_Md_fitsAt.2.1 53 = .ok (.invokevirtual 118, 3) := by decide +kernel
theorem d_Md_fitsAt_56 : decode m_Md_fitsAt.2.1 56 = .ok (.goto 14, 3) := by decide +kernel
theorem d_Md_fitsAt_70 : decode m_Md_fitsAt.2.1 70 = .ok (.ireturn, 1) := by decide +kernel
theorem d_Md_fitsAt_44 : decode m_Md_fitsAt.2.1 44 = .ok (.iload 4, 2) := by decide +kernel
theorem d_Md_fitsAt_46 : decode m_Md_fitsAt.2.1 46 = .ok (.iload_n 3, 1) := by decide +kernel
theorem d_Md_fitsAt_47 : decode m_Md_fitsAt.2.1 47 = .ok (.if_icmp .lt 12, 3) := by decide +kernel
theorem d_Md_fitsAt_59 : decode m_Md_fitsAt.2.1 59 = .ok (.aload_n 0, 1) := by decide +kernel
theorem d_Md_fitsAt_60 : decode m_Md_fitsAt.2.1 60 = .ok (.aload_n 0, 1) := by decide +kernel
theorem d_Md_fitsAt_61 : decode m_Md_fitsAt.2.1 61 = .ok (.getfield 78, 3) := by decide +kernel
theorem d_Md_fitsAt_64 : decode m_Md_fitsAt.2.1 64 = .ok (.iload 4, 2) := by decide +kernel
theorem d_Md_fitsAt_66 : decode m_Md_fitsAt.2.1 66 = .ok (.iaload, 1) := by decide +kernel
theorem d_Md_fitsAt_67 : decode m_Md_fitsAt.2.1 67 = .ok (.invokevirtual 122, 3) := by decide +kernel
theorem d_Md_fitsAt_23 : decode m_Md_fitsAt.2.1 23 = .ok (.aload_n 0, 1) := by decide +kernel
theorem d_Md_fitsAt_24 : decode m_Md_fitsAt.2.1 24 = .ok (.iload 5, 2) := by decide +kernel
theorem d_Md_fitsAt_26 : decode m_Md_fitsAt.2.1 26 = .ok (.invokevirtual 118, 3) := by decide +kernel
theorem d_Md_fitsAt_29 : decode m_Md_fitsAt.2.1 29 = .ok (.ireturn, 1) := by decide +kernel
theorem d_Md_fitsAt_5 : decode m_Md_fitsAt.2.1 5 = .ok (.iconst 1, 1) := by decide +kernel
theorem d_Md_fitsAt_6 : decode m_Md_fitsAt.2.1 6 = .ok (.goto 10, 3) := by decide +kernel
