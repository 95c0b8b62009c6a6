theorem d_Md_inWords_0 : decode m_Md_inWords.2.1 0 = .ok (.aload_n 0, 1) := by decide +kernel
theorem d_Md_inWords_1 : decode m_Md_inWords.2.1 1 = .ok (.getfield 163, 3) := by decide +kernel
theorem d_Md_inWords_4 : decode m_Md_inWords.2.1 4 = .ok (.iconst 2, 1) := by decide +kernel
theorem d_Md_inWords_5 : decode m_Md_inWords.2.1 5 = .ok (.if_icmp .eq 5, 3) := by decide +kernel
theorem d_Md_inWords_10 : decode m_Md_inWords.2.1 10 = .ok (.iconst 0, 1) := by decide +kernel
theorem d_Md_inWords_11 : decode m_Md_inWords.2.1 11 = .ok (.istore_n 2, 1) := by decide +kernel
theorem d_Md_inWords_12 : decode m_Md_inWords.2.1 12 = .ok (.iconst 1, 1) := by decide +kernel
theorem d_Md_inWords_13 : decode m_Md_inWords.2.1 13 = .ok (.istore_n 3, 1) := by decide +kernel
theorem d_Md_inWords_8 : decode m_Md_inWords.2.1 8 = .ok (.iconst (-1), 1) := by decide +kernel
theorem d_Md_inWords_9 : decode m_Md_inWords.2.1 9 = .ok (.ireturn, 1) := by decide +kernel
theorem d_Md_inWords_14 : decode m_Md_inWords.2.1 14 = .ok (.iload_n 3, 1) := by decide +kernel
theorem d_Md_inWords_15 : decode m_Md_inWords.2.1 15 = .ok (.aload_n 1, 1) := by decide +kernel
theorem d_Md_inWords_16 : decode m_Md_inWords.2.1 16 = .ok (.invokevirtual 178, 3) := by decide +kernel
theorem lk_Md_178 : Cond.methodLink "MaypoleGreenModel" 178 m_St_length.1 ∈ aw_T := aw_in 1505 (by decide +kernel) rfl
theorem in_St_length : Cond.instanceMethod m_St_length.1 ∈ aw_T := aw_in 201 (by decide +kernel) rfl
theorem se_St_length : Cond.selects m_St_length.1.cls m_St_length.1 m_St_length.1 ∈ aw_T := aw_in 202 (by decide +kernel) rfl
theorem d_Md_inWords_19 : decode m_Md_inWords.2.1 19 = .ok (.if_icmp .ge 114, 3) := by decide +kernel
theorem d_Md_inWords_133 : decode m_Md_inWords.2.1 133 = .ok (.iconst (-1), 1) := by decide +kernel
theorem d_Md_inWords_134 : decode m_Md_inWords.2.1 134 = .ok (.ireturn, 1) := by decide +kernel
theorem d_Md_inWords_22 : decode m_Md_inWords.2.1 22 = .ok (.iload_n 3, 1) := by decide +kernel
theorem d_Md_inWords_23 : decode m_Md_inWords.2.1 23 = .ok (.istore 4, 2) := by decide +kernel
theorem d_Md_inWords_25 : decode m_Md_inWords.2.1 25 = .ok (.aload_n 1, 1) := by decide +kernel
theorem d_Md_inWords_26 : decode m_Md_inWords.2.1 26 = .ok (.iload 4, 2) := by decide +kernel
theorem d_Md_inWords_28 : decode m_Md_inWords.2.1 28 = .ok (.invokevirtual 184, 3) := by decide +kernel
theorem lk_Md_184 : Cond.methodLink "MaypoleGreenModel" 184 m_St_charAt.1 ∈ aw_T := aw_in 1506 (by decide +kernel) rfl
theorem in_St_charAt : Cond.instanceMethod m_St_charAt.1 ∈ aw_T := aw_in 211 (by decide +kernel) rfl
theorem se_St_charAt : Cond.selects m_St_charAt.1.cls m_St_charAt.1 m_St_charAt.1 ∈ aw_T := aw_in 212 (by decide +kernel) rfl
theorem d_Md_inWords_31 : decode m_Md_inWords.2.1 31 = .ok (.bipush 32, 2) := by decide +kernel
theorem d_Md_inWords_33 : decode m_Md_inWords.2.1 33 = .ok (.if_icmp .eq 9, 3) := by decide +kernel
theorem d_Md_inWords_42 : decode m_Md_inWords.2.1 42 = .ok (.iload 4, 2) := by decide +kernel
theorem d_Md_inWords_44 : decode m_Md_inWords.2.1 44 = .ok (.iload_n 3, 1) := by decide +kernel
theorem d_Md_inWords_45 : decode m_Md_inWords.2.1 45 = .ok (.isub, 1) := by decide +kernel
theorem d_Md_inWords_46 : decode m_Md_inWords.2.1 46 = .ok (.aload_n 0, 1) := by decide +kernel
theorem d_Md_inWords_47 : decode m_Md_inWords.2.1 47 = .ok (.getfield 151, 3) := by decide +kernel
theorem d_Md_inWords_50 : decode m_Md_inWords.2.1 50 = .ok (.aload_n 0, 1) := by decide +kernel
theorem d_Md_inWords_51 : decode m_Md_inWords.2.1 51 = .ok (.getfield 157, 3) := by decide +kernel
theorem d_Md_inWords_54 : decode m_Md_inWords.2.1 54 = .ok (.isub, 1) := by decide +kernel
theorem d_Md_inWords_55 : decode m_Md_inWords.2.1 55 = .ok (.if_icmp .ne 7, 3) := by decide +kernel
theorem d_Md_inWords_62 : decode m_Md_inWords.2.1 62 = .ok (.iconst 0, 1) := by decide +kernel
theorem d_Md_inWords_63 : decode m_Md_inWords.2.1 63 = .ok (.istore 5, 2) := by decide +kernel
theorem d_Md_inWords_65 : decode m_Md_inWords.2.1 65 = .ok (.iload_n 3, 1) := by decide +kernel
theorem d_Md_inWords_66 : decode m_Md_inWords.2.1 66 = .ok (.istore 6, 2) := by decide +kernel
theorem d_Md_inWords_58 : decode m_Md_inWords.2.1 58 = .ok (.iconst 1, 1) := by decide +kernel
theorem d_Md_inWords_59 : decode m_Md_inWords.2.1 59 = .ok (.goto 4, 3) := by decide +kernel
theorem d_Md_inWords_36 : decode m_Md_inWords.2.1 36 = .ok (.iinc 4 1, 3) := by decide +kernel
theorem d_Md_inWords_39 : decode m_Md_inWords.2.1 39 = .ok (.goto (-14), 3) := by decide +kernel
theorem d_Md_inWords_68 : decode m_Md_inWords.2.1 68 = .ok (.iload 6, 2) := by decide +kernel
theorem d_Md_inWords_70 : decode m_Md_inWords.2.1 70 = .ok (.iload 4, 2) := by decide +kernel
theorem d_Md_inWords_72 : decode m_Md_inWords.2.1 72 = .ok (.if_icmp .ge 43, 3) := by decide +kernel
theorem d_Md_inWords_115 : decode m_Md_inWords.2.1 115 = .ok (.iload 5, 2) := by decide +kernel
theorem d_Md_inWords_117 : decode m_Md_inWords.2.1 117 = .ok (.ifCond .eq 5, 3) := by decide +kernel
theorem d_Md_inWords_122 : decode m_Md_inWords.2.1 122 = .ok (.iinc 2 1, 3) := by decide +kernel
theorem d_Md_inWords_125 : decode m_Md_inWords.2.1 125 = .ok (.iload 4, 2) := by decide +kernel
theorem d_Md_inWords_127 : decode m_Md_inWords.2.1 127 = .ok (.iconst 1, 1) := by decide +kernel
theorem d_Md_inWords_128 : decode m_Md_inWords.2.1 128 = .ok (.iadd, 1) := by decide +kernel
theorem d_Md_inWords_129 : decode m_Md_inWords.2.1 129 = .ok (.istore_n 3, 1) := by decide +kernel
theorem d_Md_inWords_130 : decode m_Md_inWords.2.1 130 = .ok (.goto (-116), 3) := by decide +kernel
theorem d_Md_inWords_120 : decode m_Md_inWords.2.1 120 = .ok (.iload_n 2, 1) := by decide +kernel
theorem d_Md_inWords_121 : decode m_Md_inWords.2.1 121 = .ok (.ireturn, 1) := by decide +kernel
theorem d_Md_inWords_75 : decode m_Md_inWords.2.1 75 = .ok (.iload 5, 2) := by decide +kernel
theorem d_Md_inWords_77 : decode m_Md_inWords.2.1 77 = .ok (.ifCond .eq 38, 3) := by decide +kernel
theorem d_Md_inWords_80 : decode m_Md_inWords.2.1 80 = .ok (.aload_n 1, 1) := by decide +kernel
theorem d_Md_inWords_81 : decode m_Md_inWords.2.1 81 = .ok (.iload 6, 2) := by decide +kernel
theorem d_Md_inWords_83 : decode m_Md_inWords.2.1 83 = .ok (.invokevirtual 184, 3) := by decide +kernel
theorem d_Md_inWords_86 : decode m_Md_inWords.2.1 86 = .ok (.aload_n 0, 1) := by decide +kernel
theorem d_Md_inWords_87 : decode m_Md_inWords.2.1 87 = .ok (.aload_n 0, 1) := by decide +kernel
theorem d_Md_inWords_88 : decode m_Md_inWords.2.1 88 = .ok (.getfield 157, 3) := by decide +kernel
theorem d_Md_inWords_91 : decode m_Md_inWords.2.1 91 = .ok (.iload 6, 2) := by decide +kernel
theorem d_Md_inWords_93 : decode m_Md_inWords.2.1 93 = .ok (.iadd, 1) := by decide +kernel
theorem d_Md_inWords_94 : decode m_Md_inWords.2.1 94 = .ok (.iload_n 3, 1) := by decide +kernel
theorem d_Md_inWords_95 : decode m_Md_inWords.2.1 95 = .ok (.isub, 1) := by decide +kernel
theorem d_Md_inWords_96 : decode m_Md_inWords.2.1 96 = .ok (.invokevirtual 154, 3) := by decide +kernel
theorem d_Md_inWords_99 : decode m_Md_inWords.2.1 99 = .ok (.if_icmp .ne 7, 3) := by decide +kernel
theorem d_Md_inWords_106 : decode m_Md_inWords.2.1 106 = .ok (.iconst 0, 1) := by decide +kernel
theorem d_Md_inWords_107 : decode m_Md_inWords.2.1 107 = .ok (.istore 5, 2) := by decide +kernel
theorem d_Md_inWords_109 : decode m_Md_inWords.2.1 109 = .ok (.iinc 6 1, 3) := by decide +kernel
theorem d_Md_inWords_112 : decode m_Md_inWords.2.1 112 = .ok (.goto (-44), 3) := by decide +kernel
theorem d_Md_inWords_102 : decode m_Md_inWords.2.1 102 = .ok (.iconst 1, 1) := by decide +kernel
theorem d_Md_inWords_103 : decode m_Md_inWords.2.1 103 = .ok (.goto 4, 3) := by decide +kernel
theorem d_Md_fails_0 : decode m_Md_fails.2.1 0 = .ok (.aload_n 0, 1) := by decide +kernel
theorem d_Md_fails_1 : decode m_Md_fails.2.1 1 = .ok (.getfield 188, 3) := by decide +kernel
theorem d_Md_fails_4 : decode m_Md_fails.2.1 4 = .ok (.ifCond .ne 28, 3) := by decide +kernel
theorem d_Md_fails_32 : decode m_Md_fails.2.1 32 = .ok (.iconst 0, 1) := by decide +kernel
theorem d_Md_fails_33 : decode m_Md_fails.2.1 33 = .ok (.ireturn, 1) := by decide +kernel
theorem d_Md_fails_7 : decode m_Md_fails.2.1 7 = .ok (.aload_n 0, 1) := by decide +kernel
theorem d_Md_fails_8 : decode m_Md_fails.2.1 8 = .ok (.aload_n 0, 1) := by decide +kernel
theorem d_Md_fails_9 : decode m_Md_fails.2.1 9 = .ok (.getfield 163, 3) := by decide +kernel
theorem d_Md_fails_12 : decode m_Md_fails.2.1 12 = .ok (.iconst 1, 1) := by decide +kernel
theorem d_Md_fails_13 : decode m_Md_fails.2.1 13 = .ok (.if_icmp .ne 7, 3) := by decide +kernel
theorem d_Md_fails_20 : decode m_Md_fails.2.1 20 = .ok (.iload_n 1, 1) := by decide +kernel
theorem d_Md_fails_21 : decode m_Md_fails.2.1 21 = .ok (.putfield 188, 3) := by decide +kernel
theorem d_Md_fails_24 : decode m_Md_fails.2.1 24 = .ok (.aload_n 0, 1) := by decide +kernel
theorem d_Md_fails_25 : decode m_Md_fails.2.1 25 = .ok (.aload_n 0, 1) := by decide +kernel
theorem d_Md_fails_26 : decode m_Md_fails.2.1 26 = .ok (.getfield 157, 3) := by decide +kernel
theorem d_Md_fails_29 : decode m_Md_fails.2.1 29 = .ok (.putfield 41, 3) := by decide +kernel
theorem d_Md_fails_16 : decode m_Md_fails.2.1 16 = .ok (.iconst 1, 1) := by decide +kernel
theorem d_Md_fails_17 : decode m_Md_fails.2.1 17 = .ok (.goto 4, 3) := by decide +kernel
theorem d_Md_isIn_0 : decode m_Md_isIn.2.1 0 = .ok (.iload_n 1, 1) := by decide +kernel
theorem d_Md_isIn_1 : decode m_Md_isIn.2.1 1 = .ok (.iload_n 2, 1) := by decide +kernel
theorem d_Md_isIn_2 : decode m_Md_isIn.2.1 2 = .ok (.ishr, 1) := by decide +kernel
theorem d_Md_isIn_3 : decode m_Md_isIn.2.1 3 = .ok (.iconst 1, 1) := by decide +kernel
theorem d_Md_isIn_4 : decode m_Md_isIn.2.1 4 = .ok (.iand, 1) := by decide +kernel
theorem d_Md_isIn_5 : decode m_Md_isIn.2.1 5 = .ok (.iconst 1, 1) := by decide +kernel
theorem d_Md_isIn_6 : decode m_Md_isIn.2.1 6 = .ok (.if_icmp .ne 7, 3) := by decide +kernel
theorem d_Md_isIn_13 : decode m_Md_isIn.2.1 13 = .ok (.iconst 0, 1) := by decide +kernel
theorem d_Md_isIn_14 : decode m_Md_isIn.2.1 14 = .ok (.ireturn, 1) := by decide +kernel
theorem d_Md_isIn_9 : decode m_Md_isIn.2.1 9 = .ok (.iconst 1, 1) := by decide +kernel
theorem d_Md_isIn_10 : decode m_Md_isIn.2.1 10 = .ok (.goto 4, 3) := by decide +kernel
theorem d_Md_aDancer_0 : decode m_Md_aDancer.2.1 0 = .ok (.aload_n 0, 1) := by decide +kernel
theorem d_Md_aDancer_1 : decode m_Md_aDancer.2.1 1 = .ok (.getfield 7, 3) := by decide +kernel
theorem d_Md_aDancer_4 : decode m_Md_aDancer.2.1 4 = .ok (.sipush 2208, 3) := by decide +kernel
theorem d_Md_aDancer_7 : decode m_Md_aDancer.2.1 7 = .ok (.iaload, 1) := by decide +kernel
theorem d_Md_aDancer_8 : decode m_Md_aDancer.2.1 8 = .ok (.istore_n 1, 1) := by decide +kernel
theorem d_Md_aDancer_9 : decode m_Md_aDancer.2.1 9 = .ok (.aload_n 0, 1) := by decide +kernel
theorem d_Md_aDancer_10 : decode m_Md_aDancer.2.1 10 = .ok (.aload_n 0, 1) := by decide +kernel
theorem d_Md_aDancer_11 : decode m_Md_aDancer.2.1 11 = .ok (.getfield 238, 3) := by decide +kernel
theorem d_Md_aDancer_14 : decode m_Md_aDancer.2.1 14 = .ok (.iconst 3, 1) := by decide +kernel
theorem d_Md_aDancer_15 : decode m_Md_aDancer.2.1 15 = .ok (.invokevirtual 241, 3) := by decide +kernel
theorem d_Md_aDancer_18 : decode m_Md_aDancer.2.1 18 = .ok (.ifCond .eq 9, 3) := by decide +kernel
theorem d_Md_aDancer_27 : decode m_Md_aDancer.2.1 27 = .ok (.iload_n 1, 1) := by decide +kernel
theorem d_Md_aDancer_28 : decode m_Md_aDancer.2.1 28 = .ok (.bipush 7, 2) := by decide +kernel
theorem d_Md_aDancer_30 : decode m_Md_aDancer.2.1 30 = .ok (.if_icmp .ne 10, 3) := by decide +kernel
theorem d_Md_aDancer_40 : decode m_Md_aDancer.2.1 40 = .ok (.aload_n 0, 1) := by decide +kernel
theorem d_Md_aDancer_41 : decode m_Md_aDancer.2.1 41 = .ok (.invokevirtual 194, 3) := by decide +kernel
theorem d_Md_aDancer_44 : decode m_Md_aDancer.2.1 44 = .ok (.aload_n 0, 1) := by decide +kernel
theorem d_Md_aDancer_45 : decode m_Md_aDancer.2.1 45 = .ok (.ldc 244, 2) := by decide +kernel
theorem d_Md_aDancer_47 : decode m_Md_aDancer.2.1 47 = .ok (.invokevirtual 246, 3) := by decide +kernel
abbrev m_Md_isName : aw_MI := (⟨"MaypoleGreenModel", "isName", "(Ljava/lang/String;)Z"⟩, prog_14_method_32_code, 2, some .boolean)
theorem lk_Md_246 : Cond.methodLink "MaypoleGreenModel" 246 m_Md_isName.1 ∈ aw_T := aw_in 1519 (by decide +kernel) rfl
theorem k_Md_isName : aw_K m_Md_isName 1 := ⟨aw_in 1522 (by decide +kernel) rfl, aw_in 16 (by decide +kernel) rfl, ⟨by decide, by decide, by decide +kernel⟩, by decide, by decide +kernel⟩
theorem in_Md_isName : Cond.instanceMethod m_Md_isName.1 ∈ aw_T := aw_in 1521 (by decide +kernel) rfl
theorem se_Md_isName : Cond.selects m_Md_isName.1.cls m_Md_isName.1 m_Md_isName.1 ∈ aw_T := aw_inP 68 (by decide +kernel) rfl
theorem d_Md_aDancer_50 : decode m_Md_aDancer.2.1 50 = .ok (.ifCond .ne 9, 3) := by decide +kernel
theorem d_Md_aDancer_59 : decode m_Md_aDancer.2.1 59 = .ok (.aload_n 0, 1) := by decide +kernel
theorem d_Md_aDancer_60 : decode m_Md_aDancer.2.1 60 = .ok (.bipush 28, 2) := by decide +kernel
theorem d_Md_aDancer_62 : decode m_Md_aDancer.2.1 62 = .ok (.iload_n 1, 1) := by decide +kernel
theorem d_Md_aDancer_63 : decode m_Md_aDancer.2.1 63 = .ok (.invokevirtual 250, 3) := by decide +kernel
abbrev m_Md_findHere : aw_MI := (⟨"MaypoleGreenModel", "findHere", "(II)I"⟩, prog_14_method_34_code, 4, some .int)
theorem lk_Md_250 : Cond.methodLink "MaypoleGreenModel" 250 m_Md_findHere.1 ∈ aw_T := aw_in 1523 (by decide +kernel) rfl
theorem k_Md_findHere : aw_K m_Md_findHere 2 := ⟨aw_in 1526 (by decide +kernel) rfl, aw_in 16 (by decide +kernel) rfl, ⟨by decide, by decide, by decide +kernel⟩, by decide, by decide +kernel⟩
theorem in_Md_findHere : Cond.instanceMethod m_Md_findHere.1 ∈ aw_T := aw_in 1525 (by decide +kernel) rfl
theorem se_Md_findHere : Cond.selects m_Md_findHere.1.cls m_Md_findHere.1 m_Md_findHere.1 ∈ aw_T := aw_inP 69 (by decide +kernel) rfl
theorem d_Md_aDancer_66 : decode m_Md_aDancer.2.1 66 = .ok (.iconst (-1), 1) := by decide +kernel
theorem d_Md_aDancer_67 : decode m_Md_aDancer.2.1 67 = .ok (.if_icmp .eq 9, 3) := by decide +kernel
theorem d_Md_aDancer_76 : decode m_Md_aDancer.2.1 76 = .ok (.aload_n 0, 1) := by decide +kernel
theorem d_Md_aDancer_77 : decode m_Md_aDancer.2.1 77 = .ok (.getfield 13, 3) := by decide +kernel
theorem d_Md_aDancer_80 : decode m_Md_aDancer.2.1 80 = .ok (.bipush 28, 2) := by decide +kernel
theorem d_Md_aDancer_82 : decode m_Md_aDancer.2.1 82 = .ok (.iload_n 1, 1) := by decide +kernel
theorem d_Md_aDancer_83 : decode m_Md_aDancer.2.1 83 = .ok (.iadd, 1) := by decide +kernel
theorem d_Md_aDancer_84 : decode m_Md_aDancer.2.1 84 = .ok (.aload_n 0, 1) := by decide +kernel
theorem d_Md_aDancer_85 : decode m_Md_aDancer.2.1 85 = .ok (.invokevirtual 207, 3) := by decide +kernel
abbrev m_Md_nameHere : aw_MI := (⟨"MaypoleGreenModel", "nameHere", "()J"⟩, prog_14_method_33_code, 4, some .long)
theorem lk_Md_207 : Cond.methodLink "MaypoleGreenModel" 207 m_Md_nameHere.1 ∈ aw_T := aw_in 1527 (by decide +kernel) rfl
theorem k_Md_nameHere : aw_K m_Md_nameHere 0 := ⟨aw_in 1530 (by decide +kernel) rfl, aw_in 16 (by decide +kernel) rfl, ⟨by decide, by decide, by decide +kernel⟩, by decide, by decide +kernel⟩
theorem in_Md_nameHere : Cond.instanceMethod m_Md_nameHere.1 ∈ aw_T := aw_in 1529 (by decide +kernel) rfl
theorem se_Md_nameHere : Cond.selects m_Md_nameHere.1.cls m_Md_nameHere.1 m_Md_nameHere.1 ∈ aw_T := aw_inP 70 (by decide +kernel) rfl
theorem d_Md_aDancer_88 : decode m_Md_aDancer.2.1 88 = .ok (.lastore, 1) := by decide +kernel
theorem d_Md_aDancer_89 : decode m_Md_aDancer.2.1 89 = .ok (.aload_n 0, 1) := by decide +kernel
theorem d_Md_aDancer_90 : decode m_Md_aDancer.2.1 90 = .ok (.invokevirtual 194, 3) := by decide +kernel
theorem d_Md_aDancer_93 : decode m_Md_aDancer.2.1 93 = .ok (.aload_n 0, 1) := by decide +kernel
theorem d_Md_aDancer_94 : decode m_Md_aDancer.2.1 94 = .ok (.ldc 244, 2) := by decide +kernel
theorem d_Md_aDancer_96 : decode m_Md_aDancer.2.1 96 = .ok (.iconst 4, 1) := by decide +kernel
theorem d_Md_aDancer_97 : decode m_Md_aDancer.2.1 97 = .ok (.invokevirtual 253, 3) := by decide +kernel
abbrev m_Md_wantWord : aw_MI := (⟨"MaypoleGreenModel", "wantWord", "(Ljava/lang/String;I)Z"⟩, prog_14_method_30_code, 3, some .boolean)
theorem lk_Md_253 : Cond.methodLink "MaypoleGreenModel" 253 m_Md_wantWord.1 ∈ aw_T := aw_in 1531 (by decide +kernel) rfl
theorem k_Md_wantWord : aw_K m_Md_wantWord 2 := ⟨aw_in 1534 (by decide +kernel) rfl, aw_in 16 (by decide +kernel) rfl, ⟨by decide, by decide, by decide +kernel⟩, by decide, by decide +kernel⟩
theorem in_Md_wantWord : Cond.instanceMethod m_Md_wantWord.1 ∈ aw_T := aw_in 1533 (by decide +kernel) rfl
theorem se_Md_wantWord : Cond.selects m_Md_wantWord.1.cls m_Md_wantWord.1 m_Md_wantWord.1 ∈ aw_T := aw_inP 71 (by decide +kernel) rfl
theorem d_Md_aDancer_100 : decode m_Md_aDancer.2.1 100 = .ok (.ifCond .eq 17, 3) := by decide +kernel
theorem d_Md_aDancer_117 : decode m_Md_aDancer.2.1 117 = .ok (.iconst 0, 1) := by decide +kernel
theorem d_Md_aDancer_118 : decode m_Md_aDancer.2.1 118 = .ok (.ireturn, 1) := by decide +kernel
theorem d_Md_aDancer_103 : decode m_Md_aDancer.2.1 103 = .ok (.aload_n 0, 1) := by decide +kernel
theorem d_Md_aDancer_104 : decode m_Md_aDancer.2.1 104 = .ok (.sipush 2218, 3) := by decide +kernel
theorem d_Md_aDancer_107 : decode m_Md_aDancer.2.1 107 = .ok (.iload_n 1, 1) := by decide +kernel
theorem d_Md_aDancer_108 : decode m_Md_aDancer.2.1 108 = .ok (.iadd, 1) := by decide +kernel
theorem d_Md_aDancer_109 : decode m_Md_aDancer.2.1 109 = .ok (.iconst 0, 1) := by decide +kernel
theorem d_Md_aDancer_110 : decode m_Md_aDancer.2.1 110 = .ok (.iconst 5, 1) := by decide +kernel
theorem d_Md_aDancer_111 : decode m_Md_aDancer.2.1 111 = .ok (.invokevirtual 257, 3) := by decide +kernel
theorem d_Md_aDancer_114 : decode m_Md_aDancer.2.1 114 = .ok (.ifCond .ne 5, 3) := by decide +kernel
theorem d_Md_aDancer_119 : decode m_Md_aDancer.2.1 119 = .ok (.aload_n 0, 1) := by decide +kernel
theorem d_Md_aDancer_120 : decode m_Md_aDancer.2.1 120 = .ok (.getfield 7, 3) := by decide +kernel
theorem d_Md_aDancer_123 : decode m_Md_aDancer.2.1 123 = .ok (.sipush 2225, 3) := by decide +kernel
theorem d_Md_aDancer_126 : decode m_Md_aDancer.2.1 126 = .ok (.iload_n 1, 1) := by decide +kernel
theorem d_Md_aDancer_127 : decode m_Md_aDancer.2.1 127 = .ok (.iadd, 1) := by decide +kernel
theorem d_Md_aDancer_128 : decode m_Md_aDancer.2.1 128 = .ok (.iload_n 1, 1) := by decide +kernel
theorem d_Md_aDancer_129 : decode m_Md_aDancer.2.1 129 = .ok (.iastore, 1) := by decide +kernel
theorem d_Md_aDancer_130 : decode m_Md_aDancer.2.1 130 = .ok (.aload_n 0, 1) := by decide +kernel
theorem d_Md_aDancer_131 : decode m_Md_aDancer.2.1 131 = .ok (.getfield 7, 3) := by decide +kernel
theorem d_Md_aDancer_134 : decode m_Md_aDancer.2.1 134 = .ok (.sipush 2208, 3) := by decide +kernel
theorem d_Md_aDancer_137 : decode m_Md_aDancer.2.1 137 = .ok (.dup2, 1) := by decide +kernel
theorem d_Md_aDancer_138 : decode m_Md_aDancer.2.1 138 = .ok (.iaload, 1) := by decide +kernel
theorem d_Md_aDancer_139 : decode m_Md_aDancer.2.1 139 = .ok (.iconst 1, 1) := by decide +kernel
theorem d_Md_aDancer_140 : decode m_Md_aDancer.2.1 140 = .ok (.iadd, 1) := by decide +kernel
theorem d_Md_aDancer_141 : decode m_Md_aDancer.2.1 141 = .ok (.iastore, 1) := by decide +kernel
theorem d_Md_aDancer_142 : decode m_Md_aDancer.2.1 142 = .ok (.iconst 1, 1) := by decide +kernel
theorem d_Md_aDancer_143 : decode m_Md_aDancer.2.1 143 = .ok (.ireturn, 1) := by decide +kernel
theorem d_Md_aDancer_70 : decode m_Md_aDancer.2.1 70 = .ok (.aload_n 0, 1) := by decide +kernel
theorem d_Md_aDancer_71 : decode m_Md_aDancer.2.1 71 = .ok (.iconst 3, 1) := by decide +kernel
theorem d_Md_aDancer_72 : decode m_Md_aDancer.2.1 72 = .ok (.invokevirtual 200, 3) := by decide +kernel
theorem d_Md_aDancer_75 : decode m_Md_aDancer.2.1 75 = .ok (.ireturn, 1) := by decide +kernel
theorem d_Md_aDancer_53 : decode m_Md_aDancer.2.1 53 = .ok (.aload_n 0, 1) := by decide +kernel
theorem d_Md_aDancer_54 : decode m_Md_aDancer.2.1 54 = .ok (.iconst 2, 1) := by decide +kernel
theorem d_Md_aDancer_55 : decode m_Md_aDancer.2.1 55 = .ok (.invokevirtual 200, 3) := by decide +kernel
theorem d_Md_aDancer_58 : decode m_Md_aDancer.2.1 58 = .ok (.ireturn, 1) := by decide +kernel
theorem d_Md_aDancer_33 : decode m_Md_aDancer.2.1 33 = .ok (.aload_n 0, 1) := by decide +kernel
theorem d_Md_aDancer_34 : decode m_Md_aDancer.2.1 34 = .ok (.bipush 6, 2) := by decide +kernel
theorem d_Md_aDancer_36 : decode m_Md_aDancer.2.1 36 = .ok (.invokevirtual 200, 3) := by decide +kernel
theorem d_Md_aDancer_39 : decode m_Md_aDancer.2.1 39 = .ok (.ireturn, 1) := by decide +kernel
theorem d_Md_aDancer_21 : decode m_Md_aDancer.2.1 21 = .ok (.aload_n 0, 1) := by decide +kernel
theorem d_Md_aDancer_22 : decode m_Md_aDancer.2.1 22 = .ok (.iconst 5, 1) := by decide +kernel
theorem d_Md_aDancer_23 : decode m_Md_aDancer.2.1 23 = .ok (.invokevirtual 200, 3) := by decide +kernel
theorem d_Md_aDancer_26 : decode m_Md_aDancer.2.1 26 = .ok (.ireturn, 1) := by decide +kernel
theorem d_Md_isName_0 : decode m_Md_isName.2.1 0 = .ok (.aload_n 0, 1) := by decide +kernel
theorem d_Md_isName_1 : decode m_Md_isName.2.1 1 = .ok (.getfield 163, 3) := by decide +kernel
theorem d_Md_isName_4 : decode m_Md_isName.2.1 4 = .ok (.iconst 2, 1) := by decide +kernel
theorem d_Md_isName_5 : decode m_Md_isName.2.1 5 = .ok (.if_icmp .ne 30, 3) := by decide +kernel
theorem d_Md_isName_35 : decode m_Md_isName.2.1 35 = .ok (.iconst 0, 1) := by decide +kernel
theorem d_Md_isName_36 : decode m_Md_isName.2.1 36 = .ok (.ireturn, 1) := by decide +kernel
theorem d_Md_isName_8 : decode m_Md_isName.2.1 8 = .ok (.aload_n 0, 1) := by decide +kernel
theorem d_Md_isName_9 : decode m_Md_isName.2.1 9 = .ok (.getfield 151, 3) := by decide +kernel
theorem d_Md_isName_12 : decode m_Md_isName.2.1 12 = .ok (.aload_n 0, 1) := by decide +kernel
theorem d_Md_isName_13 : decode m_Md_isName.2.1 13 = .ok (.getfield 157, 3) := by decide +kernel
theorem d_Md_isName_16 : decode m_Md_isName.2.1 16 = .ok (.isub, 1) := by decide +kernel
theorem d_Md_isName_17 : decode m_Md_isName.2.1 17 = .ok (.bipush 8, 2) := by decide +kernel
theorem d_Md_isName_19 : decode m_Md_isName.2.1 19 = .ok (.if_icmp .gt 16, 3) := by decide +kernel
theorem d_Md_isName_22 : decode m_Md_isName.2.1 22 = .ok (.aload_n 0, 1) := by decide +kernel
theorem d_Md_isName_23 : decode m_Md_isName.2.1 23 = .ok (.aload_n 1, 1) := by decide +kernel
theorem d_Md_isName_24 : decode m_Md_isName.2.1 24 = .ok (.invokevirtual 203, 3) := by decide +kernel
theorem d_Md_isName_27 : decode m_Md_isName.2.1 27 = .ok (.iconst (-1), 1) := by decide +kernel
theorem d_Md_isName_28 : decode m_Md_isName.2.1 28 = .ok (.if_icmp .ne 7, 3) := by decide +kernel
theorem d_Md_isName_31 : decode m_Md_isName.2.1 31 = .ok (.iconst 1, 1) := by decide +kernel
theorem d_Md_isName_32 : decode m_Md_isName.2.1 32 = .ok (.goto 4, 3) := by decide +kernel
theorem d_Md_findHere_0 : decode m_Md_findHere.2.1 0 = .ok (.iconst 0, 1) := by decide +kernel
theorem d_Md_findHere_1 : decode m_Md_findHere.2.1 1 = .ok (.istore_n 3, 1) := by decide +kernel
theorem d_Md_findHere_2 : decode m_Md_findHere.2.1 2 = .ok (.iload_n 3, 1) := by decide +kernel
theorem d_Md_findHere_3 : decode m_Md_findHere.2.1 3 = .ok (.iload_n 2, 1) := by decide +kernel
theorem d_Md_findHere_4 : decode m_Md_findHere.2.1 4 = .ok (.if_icmp .ge 27, 3) := by decide +kernel
theorem d_Md_findHere_31 : decode m_Md_findHere.2.1 31 = .ok (.iconst (-1), 1) := by decide +kernel
theorem d_Md_findHere_32 : decode m_Md_findHere.2.1 32 = .ok (.ireturn, 1) := by decide +kernel
theorem d_Md_findHere_7 : decode m_Md_findHere.2.1 7 = .ok (.aload_n 0, 1) := by decide +kernel
theorem d_Md_findHere_8 : decode m_Md_findHere.2.1 8 = .ok (.getfield 13, 3) := by decide +kernel
theorem d_Md_findHere_11 : decode m_Md_findHere.2.1 11 = .ok (.iload_n 1, 1) := by decide +kernel
theorem d_Md_findHere_12 : decode m_Md_findHere.2.1 12 = .ok (.iload_n 3, 1) := by decide +kernel
theorem d_Md_findHere_13 : decode m_Md_findHere.2.1 13 = .ok (.iadd, 1) := by decide +kernel
theorem d_Md_findHere_14 : decode m_Md_findHere.2.1 14 = .ok (.laload, 1) := by decide +kernel
theorem d_Md_findHere_15 : decode m_Md_findHere.2.1 15 = .ok (.aload_n 0, 1) := by decide +kernel
theorem d_Md_findHere_16 : decode m_Md_findHere.2.1 16 = .ok (.invokevirtual 207, 3) := by decide +kernel
theorem d_Md_findHere_19 : decode m_Md_findHere.2.1 19 = .ok (.lcmp, 1) := by decide +kernel
theorem d_Md_findHere_20 : decode m_Md_findHere.2.1 20 = .ok (.ifCond .ne 5, 3) := by decide +kernel
theorem d_Md_findHere_25 : decode m_Md_findHere.2.1 25 = .ok (.iinc 3 1, 3) := by decide +kernel
theorem d_Md_findHere_28 : decode m_Md_findHere.2.1 28 = .ok (.goto (-26), 3) := by decide +kernel
theorem d_Md_findHere_23 : decode m_Md_findHere.2.1 23 = .ok (.iload_n 3, 1) := by decide +kernel
theorem d_Md_findHere_24 : decode m_Md_findHere.2.1 24 = .ok (.ireturn, 1) := by decide +kernel
theorem d_Md_nameHere_0 : decode m_Md_nameHere.2.1 0 = .ok (.lconst 0, 1) := by decide +kernel
theorem d_Md_nameHere_1 : decode m_Md_nameHere.2.1 1 = .ok (.lstore_n 1, 1) := by decide +kernel
theorem d_Md_nameHere_2 : decode m_Md_nameHere.2.1 2 = .ok (.aload_n 0, 1) := by decide +kernel
theorem d_Md_nameHere_3 : decode m_Md_nameHere.2.1 3 = .ok (.getfield 157, 3) := by decide +kernel
theorem d_Md_nameHere_6 : decode m_Md_nameHere.2.1 6 = .ok (.istore_n 3, 1) := by decide +kernel
theorem d_Md_nameHere_7 : decode m_Md_nameHere.2.1 7 = .ok (.iload_n 3, 1) := by decide +kernel
theorem d_Md_nameHere_8 : decode m_Md_nameHere.2.1 8 = .ok (.aload_n 0, 1) := by decide +kernel
theorem d_Md_nameHere_9 : decode m_Md_nameHere.2.1 9 = .ok (.getfield 151, 3) := by decide +kernel
theorem d_Md_nameHere_12 : decode m_Md_nameHere.2.1 12 = .ok (.if_icmp .ge 21, 3) := by decide +kernel
theorem d_Md_nameHere_33 : decode m_Md_nameHere.2.1 33 = .ok (.lload_n 1, 1) := by decide +kernel
theorem d_Md_nameHere_34 : decode m_Md_nameHere.2.1 34 = .ok (.lreturn, 1) := by decide +kernel
theorem d_Md_nameHere_15 : decode m_Md_nameHere.2.1 15 = .ok (.lload_n 1, 1) := by decide +kernel
theorem d_Md_nameHere_16 : decode m_Md_nameHere.2.1 16 = .ok (.bipush 8, 2) := by decide +kernel
theorem d_Md_nameHere_18 : decode m_Md_nameHere.2.1 18 = .ok (.lshl, 1) := by decide +kernel
theorem d_Md_nameHere_19 : decode m_Md_nameHere.2.1 19 = .ok (.aload_n 0, 1) := by decide +kernel
theorem d_Md_nameHere_20 : decode m_Md_nameHere.2.1 20 = .ok (.iload_n 3, 1) := by decide +kernel
theorem d_Md_nameHere_21 : decode m_Md_nameHere.2.1 21 = .ok (.invokevirtual 154, 3) := by decide +kernel
theorem d_Md_nameHere_24 : decode m_Md_nameHere.2.1 24 = .ok (.i2l, 1) := by decide +kernel
theorem d_Md_nameHere_25 : decode m_Md_nameHere.2.1 25 = .ok (.lor, 1) := by decide +kernel
theorem d_Md_nameHere_26 : decode m_Md_nameHere.2.1 26 = .ok (.lstore_n 1, 1) := by decide +kernel
theorem d_Md_nameHere_27 : decode m_Md_nameHere.2.1 27 = .ok (.iinc 3 1, 3) := by decide +kernel
theorem d_Md_nameHere_30 : decode m_Md_nameHere.2.1 30 = .ok (.goto (-23), 3) := by decide +kernel
theorem d_Md_wantWord_0 : decode m_Md_wantWord.2.1 0 = .ok (.aload_n 0, 1) := by decide +kernel
theorem d_Md_wantWord_1 : decode m_Md_wantWord.2.1 1 = .ok (.aload_n 1, 1) := by decide +kernel
theorem d_Md_wantWord_2 : decode m_Md_wantWord.2.1 2 = .ok (.invokevirtual 203, 3) := by decide +kernel
theorem d_Md_wantWord_5 : decode m_Md_wantWord.2.1 5 = .ok (.iload_n 2, 1) := by decide +kernel
theorem d_Md_wantWord_6 : decode m_Md_wantWord.2.1 6 = .ok (.if_icmp .eq 9, 3) := by decide +kernel
theorem d_Md_wantWord_15 : decode m_Md_wantWord.2.1 15 = .ok (.aload_n 0, 1) := by decide +kernel
theorem d_Md_wantWord_16 : decode m_Md_wantWord.2.1 16 = .ok (.invokevirtual 194, 3) := by decide +kernel
theorem d_Md_wantWord_19 : decode m_Md_wantWord.2.1 19 = .ok (.iconst 1, 1) := by decide +kernel
theorem d_Md_wantWord_20 : decode m_Md_wantWord.2.1 20 = .ok (.ireturn, 1) := by decide +kernel
theorem d_Md_wantWord_9 : decode m_Md_wantWord.2.1 9 = .ok (.aload_n 0, 1) := by decide +kernel
theorem d_Md_wantWord_10 : decode m_Md_wantWord.2.1 10 = .ok (.iconst 2, 1) := by decide +kernel
theorem d_Md_wantWord_11 : decode m_Md_wantWord.2.1 11 = .ok (.invokevirtual 200, 3) := by decide +kernel
theorem d_Md_wantWord_14 : decode m_Md_wantWord.2.1 14 = .ok (.ireturn, 1) := by decide +kernel
theorem d_Md_number_0 : decode m_Md_number.2.1 0 = .ok (.aload_n 0, 1) := by decide +kernel
theorem d_Md_number_1 : decode m_Md_number.2.1 1 = .ok (.getfield 163, 3) := by decide +kernel
theorem d_Md_number_4 : decode m_Md_number.2.1 4 = .ok (.iconst 3, 1) := by decide +kernel
theorem d_Md_number_5 : decode m_Md_number.2.1 5 = .ok (.if_icmp .eq 9, 3) := by decide +kernel
theorem d_Md_number_14 : decode m_Md_number.2.1 14 = .ok (.aload_n 0, 1) := by decide +kernel
theorem d_Md_number_15 : decode m_Md_number.2.1 15 = .ok (.getfield 160, 3) := by decide +kernel
theorem d_Md_number_18 : decode m_Md_number.2.1 18 = .ok (.iload_n 2, 1) := by decide +kernel
theorem d_Md_number_19 : decode m_Md_number.2.1 19 = .ok (.if_icmp .lt 11, 3) := by decide +kernel
theorem d_Md_number_30 : decode m_Md_number.2.1 30 = .ok (.aload_n 0, 1) := by decide +kernel
theorem d_Md_number_31 : decode m_Md_number.2.1 31 = .ok (.iconst 4, 1) := by decide +kernel
theorem d_Md_number_32 : decode m_Md_number.2.1 32 = .ok (.invokevirtual 200, 3) := by decide +kernel
theorem d_Md_number_35 : decode m_Md_number.2.1 35 = .ok (.ireturn, 1) := by decide +kernel
theorem d_Md_number_22 : decode m_Md_number.2.1 22 = .ok (.aload_n 0, 1) := by decide +kernel
theorem d_Md_number_23 : decode m_Md_number.2.1 23 = .ok (.getfield 160, 3) := by decide +kernel
theorem d_Md_number_26 : decode m_Md_number.2.1 26 = .ok (.iload_n 3, 1) := by decide +kernel
theorem d_Md_number_27 : decode m_Md_number.2.1 27 = .ok (.if_icmp .le 9, 3) := by decide +kernel
theorem d_Md_number_36 : decode m_Md_number.2.1 36 = .ok (.aload_n 0, 1) := by decide +kernel
theorem d_Md_number_37 : decode m_Md_number.2.1 37 = .ok (.getfield 7, 3) := by decide +kernel
theorem d_Md_number_40 : decode m_Md_number.2.1 40 = .ok (.iload_n 1, 1) := by decide +kernel
theorem d_Md_number_41 : decode m_Md_number.2.1 41 = .ok (.aload_n 0, 1) := by decide +kernel
theorem d_Md_number_42 : decode m_Md_number.2.1 42 = .ok (.getfield 160, 3) := by decide +kernel
theorem d_Md_number_45 : decode m_Md_number.2.1 45 = .ok (.iastore, 1) := by decide +kernel
theorem d_Md_number_46 : decode m_Md_number.2.1 46 = .ok (.aload_n 0, 1) := by decide +kernel
theorem d_Md_number_47 : decode m_Md_number.2.1 47 = .ok (.invokevirtual 194, 3) := by decide +kernel
theorem d_Md_number_50 : decode m_Md_number.2.1 50 = .ok (.iconst 1, 1) := by decide +kernel
theorem d_Md_number_51 : decode m_Md_number.2.1 51 = .ok (.ireturn, 1) := by decide +kernel
theorem d_Md_number_8 : decode m_Md_number.2.1 8 = .ok (.aload_n 0, 1) := by decide +kernel
theorem d_Md_number_9 : decode m_Md_number.2.1 9 = .ok (.iconst 2, 1) := by decide +kernel
theorem d_Md_number_10 : decode m_Md_number.2.1 10 = .ok (.invokevirtual 200, 3) := by decide +kernel
theorem d_Md_number_13 : decode m_Md_number.2.1 13 = .ok (.ireturn, 1) := by decide +kernel
theorem d_Md_wantSign_0 : decode m_Md_wantSign.2.1 0 = .ok (.aload_n 0, 1) := by decide +kernel
theorem d_Md_wantSign_1 : decode m_Md_wantSign.2.1 1 = .ok (.iload_n 1, 1) := by decide +kernel
theorem d_Md_wantSign_2 : decode m_Md_wantSign.2.1 2 = .ok (.invokevirtual 197, 3) := by decide +kernel
abbrev m_Md_isSign : aw_MI := (⟨"MaypoleGreenModel", "isSign", "(I)Z"⟩, prog_14_method_25_code, 2, some .boolean)
theorem lk_Md_197 : Cond.methodLink "MaypoleGreenModel" 197 m_Md_isSign.1 ∈ aw_T := aw_in 1543 (by decide +kernel) rfl
theorem k_Md_isSign : aw_K m_Md_isSign 1 := ⟨aw_in 1546 (by decide +kernel) rfl, aw_in 16 (by decide +kernel) rfl, ⟨by decide, by decide, by decide +kernel⟩, by decide, by decide +kernel⟩
theorem in_Md_isSign : Cond.instanceMethod m_Md_isSign.1 ∈ aw_T := aw_in 1545 (by decide +kernel) rfl
theorem se_Md_isSign : Cond.selects m_Md_isSign.1.cls m_Md_isSign.1 m_Md_isSign.1 ∈ aw_T := aw_inP 74 (by decide +kernel) rfl
theorem d_Md_wantSign_5 : decode m_Md_wantSign.2.1 5 = .ok (.ifCond .ne 9, 3) := by decide +kernel
theorem d_Md_wantSign_14 : decode m_Md_wantSign.2.1 14 = .ok (.aload_n 0, 1) := by decide +kernel
theorem d_Md_wantSign_15 : decode m_Md_wantSign.2.1 15 = .ok (.invokevirtual 194, 3) := by decide +kernel
theorem d_Md_wantSign_18 : decode m_Md_wantSign.2.1 18 = .ok (.iconst 1, 1) := by decide +kernel
theorem d_Md_wantSign_19 : decode m_Md_wantSign.2.1 19 = .ok (.ireturn, 1) := by decide +kernel
theorem d_Md_wantSign_8 : decode m_Md_wantSign.2.1 8 = .ok (.aload_n 0, 1) := by decide +kernel
theorem d_Md_wantSign_9 : decode m_Md_wantSign.2.1 9 = .ok (.iconst 2, 1) := by decide +kernel
theorem d_Md_wantSign_10 : decode m_Md_wantSign.2.1 10 = .ok (.invokevirtual 200, 3) := by decide +kernel
theorem d_Md_wantSign_13 : decode m_Md_wantSign.2.1 13 = .ok (.ireturn, 1) := by decide +kernel
theorem d_Md_isSign_0 : decode m_Md_isSign.2.1 0 = .ok (.aload_n 0, 1) := by decide +kernel
theorem d_Md_isSign_1 : decode m_Md_isSign.2.1 1 = .ok (.getfield 163, 3) := by decide +kernel
theorem d_Md_isSign_4 : decode m_Md_isSign.2.1 4 = .ok (.iconst 4, 1) := by decide +kernel
theorem d_Md_isSign_5 : decode m_Md_isSign.2.1 5 = .ok (.if_icmp .ne 15, 3) := by decide +kernel
theorem d_Md_isSign_20 : decode m_Md_isSign.2.1 20 = .ok (.iconst 0, 1) := by decide +kernel
theorem d_Md_isSign_21 : decode m_Md_isSign.2.1 21 = .ok (.ireturn, 1) := by decide +kernel
theorem d_Md_isSign_8 : decode m_Md_isSign.2.1 8 = .ok (.aload_n 0, 1) := by decide +kernel
theorem d_Md_isSign_9 : decode m_Md_isSign.2.1 9 = .ok (.getfield 160, 3) := by decide +kernel
theorem d_Md_isSign_12 : decode m_Md_isSign.2.1 12 = .ok (.iload_n 1, 1) := by decide +kernel
theorem d_Md_isSign_13 : decode m_Md_isSign.2.1 13 = .ok (.if_icmp .ne 7, 3) := by decide +kernel
theorem d_Md_isSign_16 : decode m_Md_isSign.2.1 16 = .ok (.iconst 1, 1) := by decide +kernel
theorem d_Md_isSign_17 : decode m_Md_isSign.2.1 17 = .ok (.goto 4, 3) := by decide +kernel
theorem d_Md_aPass_0 : decode m_Md_aPass.2.1 0 = .ok (.sipush 2752, 3) := by decide +kernel
theorem d_Md_aPass_3 : decode m_Md_aPass.2.1 3 = .ok (.istore_n 1, 1) := by decide +kernel
theorem d_Md_aPass_4 : decode m_Md_aPass.2.1 4 = .ok (.aload_n 0, 1) := by decide +kernel
theorem d_Md_aPass_5 : decode m_Md_aPass.2.1 5 = .ok (.invokevirtual 194, 3) := by decide +kernel
theorem d_Md_aPass_8 : decode m_Md_aPass.2.1 8 = .ok (.aload_n 0, 1) := by decide +kernel
theorem d_Md_aPass_9 : decode m_Md_aPass.2.1 9 = .ok (.sipush 2208, 3) := by decide +kernel
theorem d_Md_aPass_12 : decode m_Md_aPass.2.1 12 = .ok (.iload_n 1, 1) := by decide +kernel
theorem d_Md_aPass_13 : decode m_Md_aPass.2.1 13 = .ok (.invokevirtual 263, 3) := by decide +kernel
abbrev m_Md_gapTo : aw_MI := (⟨"MaypoleGreenModel", "gapTo", "(II)Z"⟩, prog_14_method_48_code, 3, some .boolean)
theorem lk_Md_263 : Cond.methodLink "MaypoleGreenModel" 263 m_Md_gapTo.1 ∈ aw_T := aw_in 1551 (by decide +kernel) rfl
theorem k_Md_gapTo : aw_K m_Md_gapTo 2 := ⟨aw_in 1554 (by decide +kernel) rfl, aw_in 16 (by decide +kernel) rfl, ⟨by decide, by decide, by decide +kernel⟩, by decide, by decide +kernel⟩
theorem in_Md_gapTo : Cond.instanceMethod m_Md_gapTo.1 ∈ aw_T := aw_in 1553 (by decide +kernel) rfl
theorem se_Md_gapTo : Cond.selects m_Md_gapTo.1.cls m_Md_gapTo.1 m_Md_gapTo.1 ∈ aw_T := aw_inP 76 (by decide +kernel) rfl
theorem d_Md_aPass_16 : decode m_Md_aPass.2.1 16 = .ok (.ifCond .eq 13, 3) := by decide +kernel
theorem d_Md_aPass_29 : decode m_Md_aPass.2.1 29 = .ok (.iconst 0, 1) := by decide +kernel
theorem d_Md_aPass_30 : decode m_Md_aPass.2.1 30 = .ok (.ireturn, 1) := by decide +kernel
theorem d_Md_aPass_19 : decode m_Md_aPass.2.1 19 = .ok (.aload_n 0, 1) := by decide +kernel
theorem d_Md_aPass_20 : decode m_Md_aPass.2.1 20 = .ok (.iload_n 1, 1) := by decide +kernel
theorem d_Md_aPass_21 : decode m_Md_aPass.2.1 21 = .ok (.iconst 1, 1) := by decide +kernel
theorem d_Md_aPass_22 : decode m_Md_aPass.2.1 22 = .ok (.iadd, 1) := by decide +kernel
theorem d_Md_aPass_23 : decode m_Md_aPass.2.1 23 = .ok (.invokevirtual 266, 3) := by decide +kernel
abbrev m_Md_howTo : aw_MI := (⟨"MaypoleGreenModel", "howTo", "(I)Z"⟩, prog_14_method_49_code, 3, some .boolean)
theorem lk_Md_266 : Cond.methodLink "MaypoleGreenModel" 266 m_Md_howTo.1 ∈ aw_T := aw_in 1559 (by decide +kernel) rfl
theorem k_Md_howTo : aw_K m_Md_howTo 1 := ⟨aw_in 1562 (by decide +kernel) rfl, aw_in 16 (by decide +kernel) rfl, ⟨by decide, by decide, by decide +kernel⟩, by decide, by decide +kernel⟩
theorem in_Md_howTo : Cond.instanceMethod m_Md_howTo.1 ∈ aw_T := aw_in 1561 (by decide +kernel) rfl
theorem se_Md_howTo : Cond.selects m_Md_howTo.1.cls m_Md_howTo.1 m_Md_howTo.1 ∈ aw_T := aw_inP 78 (by decide +kernel) rfl
theorem d_Md_aPass_26 : decode m_Md_aPass.2.1 26 = .ok (.ifCond .ne 5, 3) := by decide +kernel
theorem d_Md_aPass_31 : decode m_Md_aPass.2.1 31 = .ok (.aload_n 0, 1) := by decide +kernel
theorem d_Md_aPass_32 : decode m_Md_aPass.2.1 32 = .ok (.sipush 2208, 3) := by decide +kernel
theorem d_Md_aPass_35 : decode m_Md_aPass.2.1 35 = .ok (.aload_n 0, 1) := by decide +kernel
theorem d_Md_aPass_36 : decode m_Md_aPass.2.1 36 = .ok (.getfield 7, 3) := by decide +kernel
theorem d_Md_aPass_39 : decode m_Md_aPass.2.1 39 = .ok (.iload_n 1, 1) := by decide +kernel
theorem d_Md_aPass_40 : decode m_Md_aPass.2.1 40 = .ok (.iaload, 1) := by decide +kernel
theorem d_Md_aPass_41 : decode m_Md_aPass.2.1 41 = .ok (.aload_n 0, 1) := by decide +kernel
theorem d_Md_aPass_42 : decode m_Md_aPass.2.1 42 = .ok (.getfield 7, 3) := by decide +kernel
theorem d_Md_aPass_45 : decode m_Md_aPass.2.1 45 = .ok (.iload_n 1, 1) := by decide +kernel
theorem d_Md_aPass_46 : decode m_Md_aPass.2.1 46 = .ok (.iconst 1, 1) := by decide +kernel
theorem d_Md_aPass_47 : decode m_Md_aPass.2.1 47 = .ok (.iadd, 1) := by decide +kernel
theorem d_Md_aPass_48 : decode m_Md_aPass.2.1 48 = .ok (.iaload, 1) := by decide +kernel
theorem d_Md_aPass_49 : decode m_Md_aPass.2.1 49 = .ok (.invokevirtual 269, 3) := by decide +kernel
abbrev m_Md_dances : aw_MI := (⟨"MaypoleGreenModel", "dances", "(III)I"⟩, prog_14_method_45_code, 8, some .int)
theorem lk_Md_269 : Cond.methodLink "MaypoleGreenModel" 269 m_Md_dances.1 ∈ aw_T := aw_in 1563 (by decide +kernel) rfl
theorem k_Md_dances : aw_K m_Md_dances 3 := ⟨aw_in 1566 (by decide +kernel) rfl, aw_in 16 (by decide +kernel) rfl, ⟨by decide, by decide, by decide +kernel⟩, by decide, by decide +kernel⟩
theorem in_Md_dances : Cond.instanceMethod m_Md_dances.1 ∈ aw_T := aw_in 1565 (by decide +kernel) rfl
theorem se_Md_dances : Cond.selects m_Md_dances.1.cls m_Md_dances.1 m_Md_dances.1 ∈ aw_T := aw_inP 79 (by decide +kernel) rfl
theorem d_Md_aPass_52 : decode m_Md_aPass.2.1 52 = .ok (.ifCond .ne 9, 3) := by decide +kernel
theorem d_Md_aPass_61 : decode m_Md_aPass.2.1 61 = .ok (.aload_n 0, 1) := by decide +kernel
theorem d_Md_aPass_62 : decode m_Md_aPass.2.1 62 = .ok (.invokevirtual 194, 3) := by decide +kernel
theorem d_Md_aPass_65 : decode m_Md_aPass.2.1 65 = .ok (.iconst 1, 1) := by decide +kernel
theorem d_Md_aPass_66 : decode m_Md_aPass.2.1 66 = .ok (.ireturn, 1) := by decide +kernel
theorem d_Md_aPass_55 : decode m_Md_aPass.2.1 55 = .ok (.aload_n 0, 1) := by decide +kernel
theorem d_Md_aPass_56 : decode m_Md_aPass.2.1 56 = .ok (.iconst 5, 1) := by decide +kernel
theorem d_Md_aPass_57 : decode m_Md_aPass.2.1 57 = .ok (.invokevirtual 200, 3) := by decide +kernel
theorem d_Md_aPass_60 : decode m_Md_aPass.2.1 60 = .ok (.ireturn, 1) := by decide +kernel
theorem d_Md_gapTo_0 : decode m_Md_gapTo.2.1 0 = .ok (.aload_n 0, 1) := by decide +kernel
theorem d_Md_gapTo_1 : decode m_Md_gapTo.2.1 1 = .ok (.iload_n 2, 1) := by decide +kernel
theorem d_Md_gapTo_2 : decode m_Md_gapTo.2.1 2 = .ok (.iconst 0, 1) := by decide +kernel
theorem d_Md_gapTo_3 : decode m_Md_gapTo.2.1 3 = .ok (.aload_n 0, 1) := by decide +kernel
theorem d_Md_gapTo_4 : decode m_Md_gapTo.2.1 4 = .ok (.iload_n 1, 1) := by decide +kernel
theorem d_Md_gapTo_5 : decode m_Md_gapTo.2.1 5 = .ok (.invokevirtual 260, 3) := by decide +kernel
abbrev m_Md_gapsOf : aw_MI := (⟨"MaypoleGreenModel", "gapsOf", "(I)I"⟩, prog_14_method_37_code, 3, some .int)
theorem lk_Md_260 : Cond.methodLink "MaypoleGreenModel" 260 m_Md_gapsOf.1 ∈ aw_T := aw_in 1555 (by decide +kernel) rfl
theorem k_Md_gapsOf : aw_K m_Md_gapsOf 1 := ⟨aw_in 1558 (by decide +kernel) rfl, aw_in 16 (by decide +kernel) rfl, ⟨by decide, by decide, by decide +kernel⟩, by decide, by decide +kernel⟩
theorem in_Md_gapsOf : Cond.instanceMethod m_Md_gapsOf.1 ∈ aw_T := aw_in 1557 (by decide +kernel) rfl
theorem se_Md_gapsOf : Cond.selects m_Md_gapsOf.1.cls m_Md_gapsOf.1 m_Md_gapsOf.1 ∈ aw_T := aw_inP 77 (by decide +kernel) rfl
theorem d_Md_gapTo_8 : decode m_Md_gapTo.2.1 8 = .ok (.iconst 1, 1) := by decide +kernel
theorem d_Md_gapTo_9 : decode m_Md_gapTo.2.1 9 = .ok (.isub, 1) := by decide +kernel
theorem d_Md_gapTo_10 : decode m_Md_gapTo.2.1 10 = .ok (.invokevirtual 257, 3) := by decide +kernel
theorem d_Md_gapTo_13 : decode m_Md_gapTo.2.1 13 = .ok (.ireturn, 1) := by decide +kernel
theorem d_Md_gapsOf_0 : decode m_Md_gapsOf.2.1 0 = .ok (.aload_n 0, 1) := by decide +kernel
theorem d_Md_gapsOf_1 : decode m_Md_gapsOf.2.1 1 = .ok (.getfield 7, 3) := by decide +kernel
theorem d_Md_gapsOf_4 : decode m_Md_gapsOf.2.1 4 = .ok (.iload_n 1, 1) := by decide +kernel
theorem d_Md_gapsOf_5 : decode m_Md_gapsOf.2.1 5 = .ok (.iconst 0, 1) := by decide +kernel
theorem d_Md_gapsOf_6 : decode m_Md_gapsOf.2.1 6 = .ok (.iadd, 1) := by decide +kernel
theorem d_Md_gapsOf_7 : decode m_Md_gapsOf.2.1 7 = .ok (.iaload, 1) := by decide +kernel
theorem d_Md_gapsOf_8 : decode m_Md_gapsOf.2.1 8 = .ok (.istore_n 2, 1) := by decide +kernel
theorem d_Md_gapsOf_9 : decode m_Md_gapsOf.2.1 9 = .ok (.iload_n 2, 1) := by decide +kernel
theorem d_Md_gapsOf_10 : decode m_Md_gapsOf.2.1 10 = .ok (.iconst 2, 1) := by decide +kernel
theorem d_Md_gapsOf_11 : decode m_Md_gapsOf.2.1 11 = .ok (.if_icmp .ge 7, 3) := by decide +kernel
theorem d_Md_gapsOf_18 : decode m_Md_gapsOf.2.1 18 = .ok (.iload_n 2, 1) := by decide +kernel
theorem d_Md_gapsOf_19 : decode m_Md_gapsOf.2.1 19 = .ok (.iconst 2, 1) := by decide +kernel
theorem d_Md_gapsOf_20 : decode m_Md_gapsOf.2.1 20 = .ok (.if_icmp .ne 7, 3) := by decide +kernel
theorem d_Md_gapsOf_27 : decode m_Md_gapsOf.2.1 27 = .ok (.iload_n 2, 1) := by decide +kernel
theorem d_Md_gapsOf_28 : decode m_Md_gapsOf.2.1 28 = .ok (.ireturn, 1) := by decide +kernel
theorem d_Md_gapsOf_23 : decode m_Md_gapsOf.2.1 23 = .ok (.iconst 1, 1) := by decide +kernel
theorem d_Md_gapsOf_24 : decode m_Md_gapsOf.2.1 24 = .ok (.goto 4, 3) := by decide +kernel
theorem d_Md_gapsOf_14 : decode m_Md_gapsOf.2.1 14 = .ok (.iconst 0, 1) := by decide +kernel
theorem d_Md_gapsOf_15 : decode m_Md_gapsOf.2.1 15 = .ok (.goto 13, 3) := by decide +kernel
theorem d_Md_howTo_0 : decode m_Md_howTo.2.1 0 = .ok (.aload_n 0, 1) := by decide +kernel
theorem d_Md_howTo_1 : decode m_Md_howTo.2.1 1 = .ok (.ldc 244, 2) := by decide +kernel
theorem d_Md_howTo_3 : decode m_Md_howTo.2.1 3 = .ok (.invokevirtual 203, 3) := by decide +kernel
theorem d_Md_howTo_6 : decode m_Md_howTo.2.1 6 = .ok (.istore_n 2, 1) := by decide +kernel
theorem d_Md_howTo_7 : decode m_Md_howTo.2.1 7 = .ok (.iload_n 2, 1) := by decide +kernel
theorem d_Md_howTo_8 : decode m_Md_howTo.2.1 8 = .ok (.iconst 5, 1) := by decide +kernel
theorem d_Md_howTo_9 : decode m_Md_howTo.2.1 9 = .ok (.if_icmp .eq 15, 3) := by decide +kernel
theorem d_Md_howTo_24 : decode m_Md_howTo.2.1 24 = .ok (.aload_n 0, 1) := by decide +kernel
theorem d_Md_howTo_25 : decode m_Md_howTo.2.1 25 = .ok (.getfield 7, 3) := by decide +kernel
theorem d_Md_howTo_28 : decode m_Md_howTo.2.1 28 = .ok (.iload_n 1, 1) := by decide +kernel
theorem d_Md_howTo_29 : decode m_Md_howTo.2.1 29 = .ok (.iload_n 2, 1) := by decide +kernel
theorem d_Md_howTo_30 : decode m_Md_howTo.2.1 30 = .ok (.iconst 5, 1) := by decide +kernel
theorem d_Md_howTo_31 : decode m_Md_howTo.2.1 31 = .ok (.if_icmp .ne 7, 3) := by decide +kernel
theorem d_Md_howTo_38 : decode m_Md_howTo.2.1 38 = .ok (.iconst 0, 1) := by decide +kernel
theorem d_Md_howTo_39 : decode m_Md_howTo.2.1 39 = .ok (.iastore, 1) := by decide +kernel
theorem d_Md_howTo_40 : decode m_Md_howTo.2.1 40 = .ok (.iconst 1, 1) := by decide +kernel
theorem d_Md_howTo_41 : decode m_Md_howTo.2.1 41 = .ok (.ireturn, 1) := by decide +kernel
theorem d_Md_howTo_34 : decode m_Md_howTo.2.1 34 = .ok (.iconst 1, 1) := by decide +kernel
theorem d_Md_howTo_35 : decode m_Md_howTo.2.1 35 = .ok (.goto 4, 3) := by decide +kernel
theorem d_Md_howTo_12 : decode m_Md_howTo.2.1 12 = .ok (.iload_n 2, 1) := by decide +kernel
theorem d_Md_howTo_13 : decode m_Md_howTo.2.1 13 = .ok (.bipush 6, 2) := by decide +kernel
theorem d_Md_howTo_15 : decode m_Md_howTo.2.1 15 = .ok (.if_icmp .eq 9, 3) := by decide +kernel
theorem d_Md_howTo_18 : decode m_Md_howTo.2.1 18 = .ok (.aload_n 0, 1) := by decide +kernel
theorem d_Md_howTo_19 : decode m_Md_howTo.2.1 19 = .ok (.iconst 2, 1) := by decide +kernel
theorem d_Md_howTo_20 : decode m_Md_howTo.2.1 20 = .ok (.invokevirtual 200, 3) := by decide +kernel
theorem d_Md_howTo_23 : decode m_Md_howTo.2.1 23 = .ok (.ireturn, 1) := by decide +kernel
theorem d_Md_dances_0 : decode m_Md_dances.2.1 0 = .ok (.aload_n 0, 1) := by decide +kernel
theorem d_Md_dances_1 : decode m_Md_dances.2.1 1 = .ok (.iload_n 1, 1) := by decide +kernel
theorem d_Md_dances_2 : decode m_Md_dances.2.1 2 = .ok (.iload_n 2, 1) := by decide +kernel
theorem d_Md_dances_3 : decode m_Md_dances.2.1 3 = .ok (.invokevirtual 221, 3) := by decide +kernel
abbrev m_Md_latestIn : aw_MI := (⟨"MaypoleGreenModel", "latestIn", "(II)I"⟩, prog_14_method_42_code, 5, some .int)
theorem lk_Md_221 : Cond.methodLink "MaypoleGreenModel" 221 m_Md_latestIn.1 ∈ aw_T := aw_in 1567 (by decide +kernel) rfl
theorem k_Md_latestIn : aw_K m_Md_latestIn 2 := ⟨aw_in 1570 (by decide +kernel) rfl, aw_in 16 (by decide +kernel) rfl, ⟨by decide, by decide, by decide +kernel⟩, by decide, by decide +kernel⟩
theorem in_Md_latestIn : Cond.instanceMethod m_Md_latestIn.1 ∈ aw_T := aw_in 1569 (by decide +kernel) rfl
theorem se_Md_latestIn : Cond.selects m_Md_latestIn.1.cls m_Md_latestIn.1 m_Md_latestIn.1 ∈ aw_T := aw_inP 80 (by decide +kernel) rfl
theorem d_Md_dances_6 : decode m_Md_dances.2.1 6 = .ok (.istore 4, 2) := by decide +kernel
theorem d_Md_dances_8 : decode m_Md_dances.2.1 8 = .ok (.iload 4, 2) := by decide +kernel
theorem d_Md_dances_10 : decode m_Md_dances.2.1 10 = .ok (.iconst (-1), 1) := by decide +kernel
theorem d_Md_dances_11 : decode m_Md_dances.2.1 11 = .ok (.if_icmp .eq 46, 3) := by decide +kernel
theorem d_Md_dances_57 : decode m_Md_dances.2.1 57 = .ok (.aload_n 0, 1) := by decide +kernel
theorem d_Md_dances_58 : decode m_Md_dances.2.1 58 = .ok (.getfield 7, 3) := by decide +kernel
theorem d_Md_dances_61 : decode m_Md_dances.2.1 61 = .ok (.iload_n 1, 1) := by decide +kernel
theorem d_Md_dances_62 : decode m_Md_dances.2.1 62 = .ok (.bipush 17, 2) := by decide +kernel
theorem d_Md_dances_64 : decode m_Md_dances.2.1 64 = .ok (.iadd, 1) := by decide +kernel
theorem d_Md_dances_65 : decode m_Md_dances.2.1 65 = .ok (.iload_n 2, 1) := by decide +kernel
theorem d_Md_dances_66 : decode m_Md_dances.2.1 66 = .ok (.iadd, 1) := by decide +kernel
theorem d_Md_dances_67 : decode m_Md_dances.2.1 67 = .ok (.iaload, 1) := by decide +kernel
theorem d_Md_dances_68 : decode m_Md_dances.2.1 68 = .ok (.istore 5, 2) := by decide +kernel
theorem d_Md_dances_70 : decode m_Md_dances.2.1 70 = .ok (.aload_n 0, 1) := by decide +kernel
theorem d_Md_dances_71 : decode m_Md_dances.2.1 71 = .ok (.getfield 7, 3) := by decide +kernel
theorem d_Md_dances_74 : decode m_Md_dances.2.1 74 = .ok (.iload_n 1, 1) := by decide +kernel
theorem d_Md_dances_75 : decode m_Md_dances.2.1 75 = .ok (.bipush 17, 2) := by decide +kernel
theorem d_Md_dances_77 : decode m_Md_dances.2.1 77 = .ok (.iadd, 1) := by decide +kernel
theorem d_Md_dances_78 : decode m_Md_dances.2.1 78 = .ok (.iload_n 2, 1) := by decide +kernel
theorem d_Md_dances_79 : decode m_Md_dances.2.1 79 = .ok (.iconst 1, 1) := by decide +kernel
theorem d_Md_dances_80 : decode m_Md_dances.2.1 80 = .ok (.iadd, 1) := by decide +kernel
theorem d_Md_dances_81 : decode m_Md_dances.2.1 81 = .ok (.aload_n 0, 1) := by decide +kernel
theorem d_Md_dances_82 : decode m_Md_dances.2.1 82 = .ok (.getfield 7, 3) := by decide +kernel
theorem d_Md_dances_85 : decode m_Md_dances.2.1 85 = .ok (.iload_n 1, 1) := by decide +kernel
theorem d_Md_dances_86 : decode m_Md_dances.2.1 86 = .ok (.iconst 0, 1) := by decide +kernel
theorem d_Md_dances_87 : decode m_Md_dances.2.1 87 = .ok (.iadd, 1) := by decide +kernel
theorem d_Md_dances_88 : decode m_Md_dances.2.1 88 = .ok (.iaload, 1) := by decide +kernel
theorem d_Md_dances_89 : decode m_Md_dances.2.1 89 = .ok (.irem, 1) := by decide +kernel
theorem d_Md_dances_90 : decode m_Md_dances.2.1 90 = .ok (.iadd, 1) := by decide +kernel
theorem d_Md_dances_91 : decode m_Md_dances.2.1 91 = .ok (.iaload, 1) := by decide +kernel
theorem d_Md_dances_92 : decode m_Md_dances.2.1 92 = .ok (.istore 6, 2) := by decide +kernel
theorem d_Md_dances_94 : decode m_Md_dances.2.1 94 = .ok (.aload_n 0, 1) := by decide +kernel
theorem d_Md_dances_95 : decode m_Md_dances.2.1 95 = .ok (.getfield 7, 3) := by decide +kernel
theorem d_Md_dances_98 : decode m_Md_dances.2.1 98 = .ok (.iload_n 1, 1) := by decide +kernel
theorem d_Md_dances_99 : decode m_Md_dances.2.1 99 = .ok (.iconst 3, 1) := by decide +kernel
theorem d_Md_dances_100 : decode m_Md_dances.2.1 100 = .ok (.iadd, 1) := by decide +kernel
theorem d_Md_dances_101 : decode m_Md_dances.2.1 101 = .ok (.iaload, 1) := by decide +kernel
theorem d_Md_dances_102 : decode m_Md_dances.2.1 102 = .ok (.bipush 40, 2) := by decide +kernel
theorem d_Md_dances_104 : decode m_Md_dances.2.1 104 = .ok (.if_icmp .eq 23, 3) := by decide +kernel
theorem d_Md_dances_127 : decode m_Md_dances.2.1 127 = .ok (.iconst 0, 1) := by decide +kernel
theorem d_Md_dances_128 : decode m_Md_dances.2.1 128 = .ok (.ireturn, 1) := by decide +kernel
theorem d_Md_dances_107 : decode m_Md_dances.2.1 107 = .ok (.aload_n 0, 1) := by decide +kernel
theorem d_Md_dances_108 : decode m_Md_dances.2.1 108 = .ok (.iload_n 1, 1) := by decide +kernel
theorem d_Md_dances_109 : decode m_Md_dances.2.1 109 = .ok (.iload 5, 2) := by decide +kernel
theorem d_Md_dances_111 : decode m_Md_dances.2.1 111 = .ok (.invokevirtual 235, 3) := by decide +kernel
abbrev m_Md_leftOf : aw_MI := (⟨"MaypoleGreenModel", "leftOf", "(II)I"⟩, prog_14_method_40_code, 6, some .int)
theorem lk_Md_235 : Cond.methodLink "MaypoleGreenModel" 235 m_Md_leftOf.1 ∈ aw_T := aw_in 1590 (by decide +kernel) rfl
theorem k_Md_leftOf : aw_K m_Md_leftOf 2 := ⟨aw_in 1593 (by decide +kernel) rfl, aw_in 16 (by decide +kernel) rfl, ⟨by decide, by decide, by decide +kernel⟩, by decide, by decide +kernel⟩
theorem in_Md_leftOf : Cond.instanceMethod m_Md_leftOf.1 ∈ aw_T := aw_in 1592 (by decide +kernel) rfl
theorem se_Md_leftOf : Cond.selects m_Md_leftOf.1.cls m_Md_leftOf.1 m_Md_leftOf.1 ∈ aw_T := aw_inP 85 (by decide +kernel) rfl
theorem d_Md_dances_114 : decode m_Md_dances.2.1 114 = .ok (.ifCond .eq 13, 3) := by decide +kernel
theorem d_Md_dances_117 : decode m_Md_dances.2.1 117 = .ok (.aload_n 0, 1) := by decide +kernel
theorem d_Md_dances_118 : decode m_Md_dances.2.1 118 = .ok (.iload_n 1, 1) := by decide +kernel
theorem d_Md_dances_119 : decode m_Md_dances.2.1 119 = .ok (.iload 6, 2) := by decide +kernel
theorem d_Md_dances_121 : decode m_Md_dances.2.1 121 = .ok (.invokevirtual 235, 3) := by decide +kernel
theorem d_Md_dances_124 : decode m_Md_dances.2.1 124 = .ok (.ifCond .ne 5, 3) := by decide +kernel
theorem d_Md_dances_129 : decode m_Md_dances.2.1 129 = .ok (.iload_n 1, 1) := by decide +kernel
theorem d_Md_dances_130 : decode m_Md_dances.2.1 130 = .ok (.aload_n 0, 1) := by decide +kernel
theorem d_Md_dances_131 : decode m_Md_dances.2.1 131 = .ok (.getfield 7, 3) := by decide +kernel
theorem d_Md_dances_134 : decode m_Md_dances.2.1 134 = .ok (.iload_n 1, 1) := by decide +kernel
theorem d_Md_dances_135 : decode m_Md_dances.2.1 135 = .ok (.iconst 3, 1) := by decide +kernel
theorem d_Md_dances_136 : decode m_Md_dances.2.1 136 = .ok (.iadd, 1) := by decide +kernel
theorem d_Md_dances_137 : decode m_Md_dances.2.1 137 = .ok (.iaload, 1) := by decide +kernel
theorem d_Md_dances_138 : decode m_Md_dances.2.1 138 = .ok (.invokestatic 211, 3) := by decide +kernel
abbrev m_Md_plaitRow : aw_MI := (⟨"MaypoleGreenModel", "plaitRow", "(I)I"⟩, prog_14_method_39_code, 1, some .int)
theorem lk_Md_211 : Cond.methodLink "MaypoleGreenModel" 211 m_Md_plaitRow.1 ∈ aw_T := aw_in 1571 (by decide +kernel) rfl
theorem k_Md_plaitRow : aw_K m_Md_plaitRow 1 := ⟨aw_in 1573 (by decide +kernel) rfl, aw_in 16 (by decide +kernel) rfl, ⟨by decide, by decide, by decide +kernel⟩, by decide, by decide +kernel⟩
theorem st_Md_plaitRow : Cond.static m_Md_plaitRow.1 ∈ aw_T := aw_in 1572 (by decide +kernel) rfl
theorem d_Md_dances_141 : decode m_Md_dances.2.1 141 = .ok (.iadd, 1) := by decide +kernel
theorem d_Md_dances_142 : decode m_Md_dances.2.1 142 = .ok (.istore 7, 2) := by decide +kernel
theorem d_Md_dances_144 : decode m_Md_dances.2.1 144 = .ok (.aload_n 0, 1) := by decide +kernel
theorem d_Md_dances_145 : decode m_Md_dances.2.1 145 = .ok (.getfield 7, 3) := by decide +kernel
theorem d_Md_dances_148 : decode m_Md_dances.2.1 148 = .ok (.iload 7, 2) := by decide +kernel
theorem d_Md_dances_150 : decode m_Md_dances.2.1 150 = .ok (.iload_n 2, 1) := by decide +kernel
theorem d_Md_dances_151 : decode m_Md_dances.2.1 151 = .ok (.iastore, 1) := by decide +kernel
theorem d_Md_dances_152 : decode m_Md_dances.2.1 152 = .ok (.aload_n 0, 1) := by decide +kernel
theorem d_Md_dances_153 : decode m_Md_dances.2.1 153 = .ok (.getfield 7, 3) := by decide +kernel
theorem d_Md_dances_156 : decode m_Md_dances.2.1 156 = .ok (.iload 7, 2) := by decide +kernel
theorem d_Md_dances_158 : decode m_Md_dances.2.1 158 = .ok (.iconst 1, 1) := by decide +kernel
theorem d_Md_dances_159 : decode m_Md_dances.2.1 159 = .ok (.iadd, 1) := by decide +kernel
theorem d_Md_dances_160 : decode m_Md_dances.2.1 160 = .ok (.iload_n 3, 1) := by decide +kernel
theorem d_Md_dances_161 : decode m_Md_dances.2.1 161 = .ok (.iastore, 1) := by decide +kernel
theorem d_Md_dances_162 : decode m_Md_dances.2.1 162 = .ok (.aload_n 0, 1) := by decide +kernel
theorem d_Md_dances_163 : decode m_Md_dances.2.1 163 = .ok (.getfield 7, 3) := by decide +kernel
theorem d_Md_dances_166 : decode m_Md_dances.2.1 166 = .ok (.iload 7, 2) := by decide +kernel
theorem d_Md_dances_168 : decode m_Md_dances.2.1 168 = .ok (.iconst 2, 1) := by decide +kernel
theorem d_Md_dances_169 : decode m_Md_dances.2.1 169 = .ok (.iadd, 1) := by decide +kernel
theorem d_Md_dances_170 : decode m_Md_dances.2.1 170 = .ok (.iload_n 3, 1) := by decide +kernel
theorem d_Md_dances_171 : decode m_Md_dances.2.1 171 = .ok (.iconst 1, 1) := by decide +kernel
theorem d_Md_dances_172 : decode m_Md_dances.2.1 172 = .ok (.if_icmp .ne 8, 3) := by decide +kernel
theorem d_Md_dances_180 : decode m_Md_dances.2.1 180 = .ok (.iload 6, 2) := by decide +kernel
theorem d_Md_dances_182 : decode m_Md_dances.2.1 182 = .ok (.iastore, 1) := by decide +kernel
theorem d_Md_dances_183 : decode m_Md_dances.2.1 183 = .ok (.aload_n 0, 1) := by decide +kernel
theorem d_Md_dances_184 : decode m_Md_dances.2.1 184 = .ok (.getfield 7, 3) := by decide +kernel
theorem d_Md_dances_187 : decode m_Md_dances.2.1 187 = .ok (.iload 7, 2) := by decide +kernel
theorem d_Md_dances_189 : decode m_Md_dances.2.1 189 = .ok (.iconst 3, 1) := by decide +kernel
theorem d_Md_dances_190 : decode m_Md_dances.2.1 190 = .ok (.iadd, 1) := by decide +kernel
theorem d_Md_dances_191 : decode m_Md_dances.2.1 191 = .ok (.iload_n 3, 1) := by decide +kernel
theorem d_Md_dances_192 : decode m_Md_dances.2.1 192 = .ok (.iconst 1, 1) := by decide +kernel
theorem d_Md_dances_193 : decode m_Md_dances.2.1 193 = .ok (.if_icmp .ne 8, 3) := by decide +kernel
theorem d_Md_dances_201 : decode m_Md_dances.2.1 201 = .ok (.iload 5, 2) := by decide +kernel
theorem d_Md_dances_203 : decode m_Md_dances.2.1 203 = .ok (.iastore, 1) := by decide +kernel
theorem d_Md_dances_204 : decode m_Md_dances.2.1 204 = .ok (.aload_n 0, 1) := by decide +kernel
theorem d_Md_dances_205 : decode m_Md_dances.2.1 205 = .ok (.getfield 7, 3) := by decide +kernel
theorem d_Md_dances_208 : decode m_Md_dances.2.1 208 = .ok (.iload_n 1, 1) := by decide +kernel
theorem d_Md_dances_209 : decode m_Md_dances.2.1 209 = .ok (.iconst 3, 1) := by decide +kernel
theorem d_Md_dances_210 : decode m_Md_dances.2.1 210 = .ok (.iadd, 1) := by decide +kernel
theorem d_Md_dances_211 : decode m_Md_dances.2.1 211 = .ok (.dup2, 1) := by decide +kernel
theorem d_Md_dances_212 : decode m_Md_dances.2.1 212 = .ok (.iaload, 1) := by decide +kernel
theorem d_Md_dances_213 : decode m_Md_dances.2.1 213 = .ok (.iconst 1, 1) := by decide +kernel
theorem d_Md_dances_214 : decode m_Md_dances.2.1 214 = .ok (.iadd, 1) := by decide +kernel
theorem d_Md_dances_215 : decode m_Md_dances.2.1 215 = .ok (.iastore, 1) := by decide +kernel
theorem d_Md_dances_216 : decode m_Md_dances.2.1 216 = .ok (.aload_n 0, 1) := by decide +kernel
theorem d_Md_dances_217 : decode m_Md_dances.2.1 217 = .ok (.iload_n 1, 1) := by decide +kernel
theorem d_Md_dances_218 : decode m_Md_dances.2.1 218 = .ok (.iload_n 2, 1) := by decide +kernel
theorem d_Md_dances_219 : decode m_Md_dances.2.1 219 = .ok (.invokevirtual 228, 3) := by decide +kernel
abbrev m_Md_swaps : aw_MI := (⟨"MaypoleGreenModel", "swaps", "(II)V"⟩, prog_14_method_43_code, 5, none)
theorem lk_Md_228 : Cond.methodLink "MaypoleGreenModel" 228 m_Md_swaps.1 ∈ aw_T := aw_in 1582 (by decide +kernel) rfl
theorem k_Md_swaps : aw_K m_Md_swaps 2 := ⟨aw_in 1585 (by decide +kernel) rfl, aw_in 16 (by decide +kernel) rfl, ⟨by decide, by decide, by decide +kernel⟩, by decide, by decide +kernel⟩
theorem in_Md_swaps : Cond.instanceMethod m_Md_swaps.1 ∈ aw_T := aw_in 1584 (by decide +kernel) rfl
theorem se_Md_swaps : Cond.selects m_Md_swaps.1.cls m_Md_swaps.1 m_Md_swaps.1 ∈ aw_T := aw_inP 83 (by decide +kernel) rfl
theorem d_Md_dances_222 : decode m_Md_dances.2.1 222 = .ok (.iconst 1, 1) := by decide +kernel
theorem d_Md_dances_223 : decode m_Md_dances.2.1 223 = .ok (.ireturn, 1) := by decide +kernel
theorem d_Md_dances_196 : decode m_Md_dances.2.1 196 = .ok (.iload 6, 2) := by decide +kernel
theorem d_Md_dances_198 : decode m_Md_dances.2.1 198 = .ok (.goto 5, 3) := by decide +kernel
theorem d_Md_dances_175 : decode m_Md_dances.2.1 175 = .ok (.iload 5, 2) := by decide +kernel
theorem d_Md_dances_177 : decode m_Md_dances.2.1 177 = .ok (.goto 5, 3) := by decide +kernel
theorem d_Md_dances_14 : decode m_Md_dances.2.1 14 = .ok (.aload_n 0, 1) := by decide +kernel
theorem d_Md_dances_15 : decode m_Md_dances.2.1 15 = .ok (.getfield 7, 3) := by decide +kernel
theorem d_Md_dances_18 : decode m_Md_dances.2.1 18 = .ok (.iload_n 1, 1) := by decide +kernel
theorem d_Md_dances_19 : decode m_Md_dances.2.1 19 = .ok (.iload 4, 2) := by decide +kernel
theorem d_Md_dances_21 : decode m_Md_dances.2.1 21 = .ok (.invokestatic 211, 3) := by decide +kernel
theorem d_Md_dances_24 : decode m_Md_dances.2.1 24 = .ok (.iadd, 1) := by decide +kernel
theorem d_Md_dances_25 : decode m_Md_dances.2.1 25 = .ok (.iconst 1, 1) := by decide +kernel
theorem d_Md_dances_26 : decode m_Md_dances.2.1 26 = .ok (.iadd, 1) := by decide +kernel
theorem d_Md_dances_27 : decode m_Md_dances.2.1 27 = .ok (.iaload, 1) := by decide +kernel
theorem d_Md_dances_28 : decode m_Md_dances.2.1 28 = .ok (.iload_n 3, 1) := by decide +kernel
theorem d_Md_dances_29 : decode m_Md_dances.2.1 29 = .ok (.if_icmp .eq 28, 3) := by decide +kernel
theorem d_Md_dances_32 : decode m_Md_dances.2.1 32 = .ok (.aload_n 0, 1) := by decide +kernel
theorem d_Md_dances_33 : decode m_Md_dances.2.1 33 = .ok (.iload_n 1, 1) := by decide +kernel
theorem d_Md_dances_34 : decode m_Md_dances.2.1 34 = .ok (.iload 4, 2) := by decide +kernel
theorem d_Md_dances_36 : decode m_Md_dances.2.1 36 = .ok (.invokevirtual 224, 3) := by decide +kernel
abbrev m_Md_isFreeIn : aw_MI := (⟨"MaypoleGreenModel", "isFreeIn", "(II)Z"⟩, prog_14_method_41_code, 4, some .boolean)
theorem lk_Md_224 : Cond.methodLink "MaypoleGreenModel" 224 m_Md_isFreeIn.1 ∈ aw_T := aw_in 1574 (by decide +kernel) rfl
theorem k_Md_isFreeIn : aw_K m_Md_isFreeIn 2 := ⟨aw_in 1577 (by decide +kernel) rfl, aw_in 16 (by decide +kernel) rfl, ⟨by decide, by decide, by decide +kernel⟩, by decide, by decide +kernel⟩
theorem in_Md_isFreeIn : Cond.instanceMethod m_Md_isFreeIn.1 ∈ aw_T := aw_in 1576 (by decide +kernel) rfl
theorem se_Md_isFreeIn : Cond.selects m_Md_isFreeIn.1.cls m_Md_isFreeIn.1 m_Md_isFreeIn.1 ∈ aw_T := aw_inP 81 (by decide +kernel) rfl
theorem d_Md_dances_39 : decode m_Md_dances.2.1 39 = .ok (.ifCond .eq 18, 3) := by decide +kernel
theorem d_Md_dances_42 : decode m_Md_dances.2.1 42 = .ok (.aload_n 0, 1) := by decide +kernel
theorem d_Md_dances_43 : decode m_Md_dances.2.1 43 = .ok (.iload_n 1, 1) := by decide +kernel
theorem d_Md_dances_44 : decode m_Md_dances.2.1 44 = .ok (.iload_n 2, 1) := by decide +kernel
theorem d_Md_dances_45 : decode m_Md_dances.2.1 45 = .ok (.invokevirtual 228, 3) := by decide +kernel
theorem d_Md_dances_48 : decode m_Md_dances.2.1 48 = .ok (.aload_n 0, 1) := by decide +kernel
theorem d_Md_dances_49 : decode m_Md_dances.2.1 49 = .ok (.iload_n 1, 1) := by decide +kernel
theorem d_Md_dances_50 : decode m_Md_dances.2.1 50 = .ok (.iload 4, 2) := by decide +kernel
theorem d_Md_dances_52 : decode m_Md_dances.2.1 52 = .ok (.invokevirtual 232, 3) := by decide +kernel
abbrev m_Md_loses : aw_MI := (⟨"MaypoleGreenModel", "loses", "(II)V"⟩, prog_14_method_44_code, 4, none)
theorem lk_Md_232 : Cond.methodLink "MaypoleGreenModel" 232 m_Md_loses.1 ∈ aw_T := aw_in 1586 (by decide +kernel) rfl
theorem k_Md_loses : aw_K m_Md_loses 2 := ⟨aw_in 1589 (by decide +kernel) rfl, aw_in 16 (by decide +kernel) rfl, ⟨by decide, by decide, by decide +kernel⟩, by decide, by decide +kernel⟩
theorem in_Md_loses : Cond.instanceMethod m_Md_loses.1 ∈ aw_T := aw_in 1588 (by decide +kernel) rfl
theorem se_Md_loses : Cond.selects m_Md_loses.1.cls m_Md_loses.1 m_Md_loses.1 ∈ aw_T := aw_inP 84 (by decide +kernel) rfl
theorem d_Md_dances_55 : decode m_Md_dances.2.1 55 = .ok (.iconst 2, 1) := by decide +kernel
theorem d_Md_dances_56 : decode m_Md_dances.2.1 56 = .ok (.ireturn, 1) := by decide +kernel
theorem d_Md_latestIn_0 : decode m_Md_latestIn.2.1 0 = .ok (.iconst (-1), 1) := by decide +kernel
theorem d_Md_latestIn_1 : decode m_Md_latestIn.2.1 1 = .ok (.istore_n 3, 1) := by decide +kernel
theorem d_Md_latestIn_2 : decode m_Md_latestIn.2.1 2 = .ok (.iconst 0, 1) := by decide +kernel
theorem d_Md_latestIn_3 : decode m_Md_latestIn.2.1 3 = .ok (.istore 4, 2) := by decide +kernel
theorem d_Md_latestIn_5 : decode m_Md_latestIn.2.1 5 = .ok (.iload 4, 2) := by decide +kernel
theorem d_Md_latestIn_7 : decode m_Md_latestIn.2.1 7 = .ok (.aload_n 0, 1) := by decide +kernel
theorem d_Md_latestIn_8 : decode m_Md_latestIn.2.1 8 = .ok (.getfield 7, 3) := by decide +kernel
theorem d_Md_latestIn_11 : decode m_Md_latestIn.2.1 11 = .ok (.iload_n 1, 1) := by decide +kernel
theorem d_Md_latestIn_12 : decode m_Md_latestIn.2.1 12 = .ok (.iconst 3, 1) := by decide +kernel
theorem d_Md_latestIn_13 : decode m_Md_latestIn.2.1 13 = .ok (.iadd, 1) := by decide +kernel
theorem d_Md_latestIn_14 : decode m_Md_latestIn.2.1 14 = .ok (.iaload, 1) := by decide +kernel
theorem d_Md_latestIn_15 : decode m_Md_latestIn.2.1 15 = .ok (.if_icmp .ge 28, 3) := by decide +kernel
theorem d_Md_latestIn_43 : decode m_Md_latestIn.2.1 43 = .ok (.iload_n 3, 1) := by decide +kernel
theorem d_Md_latestIn_44 : decode m_Md_latestIn.2.1 44 = .ok (.ireturn, 1) := by decide +kernel
theorem d_Md_latestIn_18 : decode m_Md_latestIn.2.1 18 = .ok (.aload_n 0, 1) := by decide +kernel
theorem d_Md_latestIn_19 : decode m_Md_latestIn.2.1 19 = .ok (.getfield 7, 3) := by decide +kernel
theorem d_Md_latestIn_22 : decode m_Md_latestIn.2.1 22 = .ok (.iload_n 1, 1) := by decide +kernel
theorem d_Md_latestIn_23 : decode m_Md_latestIn.2.1 23 = .ok (.iload 4, 2) := by decide +kernel
theorem d_Md_latestIn_25 : decode m_Md_latestIn.2.1 25 = .ok (.invokestatic 211, 3) := by decide +kernel
theorem d_Md_latestIn_28 : decode m_Md_latestIn.2.1 28 = .ok (.iadd, 1) := by decide +kernel
theorem d_Md_latestIn_29 : decode m_Md_latestIn.2.1 29 = .ok (.iaload, 1) := by decide +kernel
theorem d_Md_latestIn_30 : decode m_Md_latestIn.2.1 30 = .ok (.iload_n 2, 1) := by decide +kernel
theorem d_Md_latestIn_31 : decode m_Md_latestIn.2.1 31 = .ok (.if_icmp .ne 6, 3) := by decide +kernel
theorem d_Md_latestIn_37 : decode m_Md_latestIn.2.1 37 = .ok (.iinc 4 1, 3) := by decide +kernel
theorem d_Md_latestIn_40 : decode m_Md_latestIn.2.1 40 = .ok (.goto (-35), 3) := by decide +kernel
theorem d_Md_latestIn_34 : decode m_Md_latestIn.2.1 34 = .ok (.iload 4, 2) := by decide +kernel
theorem d_Md_latestIn_36 : decode m_Md_latestIn.2.1 36 = .ok (.istore_n 3, 1) := by decide +kernel
theorem d_Md_plaitRow_0 : decode m_Md_plaitRow.2.1 0 = .ok (.bipush 24, 2) := by decide +kernel
theorem d_Md_plaitRow_2 : decode m_Md_plaitRow.2.1 2 = .ok (.iconst 4, 1) := by decide +kernel
theorem d_Md_plaitRow_3 : decode m_Md_plaitRow.2.1 3 = .ok (.iload_n 0, 1) := by decide +kernel
theorem d_Md_plaitRow_4 : decode m_Md_plaitRow.2.1 4 = .ok (.imul, 1) := by decide +kernel
theorem d_Md_plaitRow_5 : decode m_Md_plaitRow.2.1 5 = .ok (.iadd, 1) := by decide +kernel
theorem d_Md_plaitRow_6 : decode m_Md_plaitRow.2.1 6 = .ok (.ireturn, 1) := by decide +kernel
theorem d_Md_isFreeIn_0 : decode m_Md_isFreeIn.2.1 0 = .ok (.iload_n 2, 1) := by decide +kernel
theorem d_Md_isFreeIn_1 : decode m_Md_isFreeIn.2.1 1 = .ok (.iconst 1, 1) := by decide +kernel
theorem d_Md_isFreeIn_2 : decode m_Md_isFreeIn.2.1 2 = .ok (.iadd, 1) := by decide +kernel
theorem d_Md_isFreeIn_3 : decode m_Md_isFreeIn.2.1 3 = .ok (.istore_n 3, 1) := by decide +kernel
theorem d_Md_isFreeIn_4 : decode m_Md_isFreeIn.2.1 4 = .ok (.iload_n 3, 1) := by decide +kernel
theorem d_Md_isFreeIn_5 : decode m_Md_isFreeIn.2.1 5 = .ok (.aload_n 0, 1) := by decide +kernel
theorem d_Md_isFreeIn_6 : decode m_Md_isFreeIn.2.1 6 = .ok (.getfield 7, 3) := by decide +kernel
theorem d_Md_isFreeIn_9 : decode m_Md_isFreeIn.2.1 9 = .ok (.iload_n 1, 1) := by decide +kernel
theorem d_Md_isFreeIn_10 : decode m_Md_isFreeIn.2.1 10 = .ok (.iconst 3, 1) := by decide +kernel
theorem d_Md_isFreeIn_11 : decode m_Md_isFreeIn.2.1 11 = .ok (.iadd, 1) := by decide +kernel
theorem d_Md_isFreeIn_12 : decode m_Md_isFreeIn.2.1 12 = .ok (.iaload, 1) := by decide +kernel
theorem d_Md_isFreeIn_13 : decode m_Md_isFreeIn.2.1 13 = .ok (.if_icmp .ge 41, 3) := by decide +kernel
theorem d_Md_isFreeIn_54 : decode m_Md_isFreeIn.2.1 54 = .ok (.iconst 1, 1) := by decide +kernel
theorem d_Md_isFreeIn_55 : decode m_Md_isFreeIn.2.1 55 = .ok (.ireturn, 1) := by decide +kernel
theorem d_Md_isFreeIn_16 : decode m_Md_isFreeIn.2.1 16 = .ok (.aload_n 0, 1) := by decide +kernel
theorem d_Md_isFreeIn_17 : decode m_Md_isFreeIn.2.1 17 = .ok (.iload_n 1, 1) := by decide +kernel
theorem d_Md_isFreeIn_18 : decode m_Md_isFreeIn.2.1 18 = .ok (.aload_n 0, 1) := by decide +kernel
theorem d_Md_isFreeIn_19 : decode m_Md_isFreeIn.2.1 19 = .ok (.getfield 7, 3) := by decide +kernel
theorem d_Md_isFreeIn_22 : decode m_Md_isFreeIn.2.1 22 = .ok (.iload_n 1, 1) := by decide +kernel
theorem d_Md_isFreeIn_23 : decode m_Md_isFreeIn.2.1 23 = .ok (.iload_n 3, 1) := by decide +kernel
theorem d_Md_isFreeIn_24 : decode m_Md_isFreeIn.2.1 24 = .ok (.invokestatic 211, 3) := by decide +kernel
theorem d_Md_isFreeIn_27 : decode m_Md_isFreeIn.2.1 27 = .ok (.iadd, 1) := by decide +kernel
theorem d_Md_isFreeIn_28 : decode m_Md_isFreeIn.2.1 28 = .ok (.iaload, 1) := by decide +kernel
theorem d_Md_isFreeIn_29 : decode m_Md_isFreeIn.2.1 29 = .ok (.aload_n 0, 1) := by decide +kernel
theorem d_Md_isFreeIn_30 : decode m_Md_isFreeIn.2.1 30 = .ok (.getfield 7, 3) := by decide +kernel
theorem d_Md_isFreeIn_33 : decode m_Md_isFreeIn.2.1 33 = .ok (.iload_n 1, 1) := by decide +kernel
theorem d_Md_isFreeIn_34 : decode m_Md_isFreeIn.2.1 34 = .ok (.iload_n 2, 1) := by decide +kernel
theorem d_Md_isFreeIn_35 : decode m_Md_isFreeIn.2.1 35 = .ok (.invokestatic 211, 3) := by decide +kernel
theorem d_Md_isFreeIn_38 : decode m_Md_isFreeIn.2.1 38 = .ok (.iadd, 1) := by decide +kernel
theorem d_Md_isFreeIn_39 : decode m_Md_isFreeIn.2.1 39 = .ok (.iaload, 1) := by decide +kernel
theorem d_Md_isFreeIn_40 : decode m_Md_isFreeIn.2.1 40 = .ok (.invokevirtual 217, 3) := by decide +kernel
abbrev m_Md_isTouching : aw_MI := (⟨"MaypoleGreenModel", "isTouching", "(III)Z"⟩, prog_14_method_38_code, 6, some .boolean)
theorem lk_Md_217 : Cond.methodLink "MaypoleGreenModel" 217 m_Md_isTouching.1 ∈ aw_T := aw_in 1578 (by decide +kernel) rfl
theorem k_Md_isTouching : aw_K m_Md_isTouching 3 := ⟨aw_in 1581 (by decide +kernel) rfl, aw_in 16 (by decide +kernel) rfl, ⟨by decide, by decide, by decide +kernel⟩, by decide, by decide +kernel⟩
theorem in_Md_isTouching : Cond.instanceMethod m_Md_isTouching.1 ∈ aw_T := aw_in 1580 (by decide +kernel) rfl
theorem se_Md_isTouching : Cond.selects m_Md_isTouching.1.cls m_Md_isTouching.1 m_Md_isTouching.1 ∈ aw_T := aw_inP 82 (by decide +kernel) rfl
theorem d_Md_isFreeIn_43 : decode m_Md_isFreeIn.2.1 43 = .ok (.ifCond .eq 5, 3) := by decide +kernel
theorem d_Md_isFreeIn_48 : decode m_Md_isFreeIn.2.1 48 = .ok (.iinc 3 1, 3) := by decide +kernel
theorem d_Md_isFreeIn_51 : decode m_Md_isFreeIn.2.1 51 = .ok (.goto (-47), 3) := by decide +kernel
theorem d_Md_isFreeIn_46 : decode m_Md_isFreeIn.2.1 46 = .ok (.iconst 0, 1) := by decide +kernel
theorem d_Md_isFreeIn_47 : decode m_Md_isFreeIn.2.1 47 = .ok (.ireturn, 1) := by decide +kernel
