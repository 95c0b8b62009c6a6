theorem d_Md_fails_0 : decode m_Md_fails.2.1 0 = .ok (.aload_n 0, 1) := by decide +kernel
theorem d_Md_fails_1 : decode m_Md_fails.2.1 1 = .ok (.getfield 188, 3) := by decide +kernel
theorem d_Md_fails_4 : decode m_Md_fails.2.1 4 = .ok (.ifCond .ne 28, 3) := by decide +kernel
theorem d_Md_fails_32 : decode m_Md_fails.2.1 32 = .ok (.iconst 0, 1) := by decide +kernel
theorem d_Md_fails_33 : decode m_Md_fails.2.1 33 = .ok (.ireturn, 1) := by decide +kernel
theorem d_Md_fails_7 : decode m_Md_fails.2.1 7 = .ok (.aload_n 0, 1) := by decide +kernel
theorem d_Md_fails_8 : decode m_Md_fails.2.1 8 = .ok (.aload_n 0, 1) := by decide +kernel
theorem d_Md_fails_9 : decode m_Md_fails.2.1 9 = .ok (.getfield 163, 3) := by decide +kernel
theorem d_Md_fails_12 : decode m_Md_fails.2.1 12 = .ok (.iconst 1, 1) := by decide +kernel
theorem d_Md_fails_13 : decode m_Md_fails.2.1 13 = .ok (.if_icmp .ne 7, 3) := by decide +kernel
theorem d_Md_fails_20 : decode m_Md_fails.2.1 20 = .ok (.iload_n 1, 1) := by decide +kernel
theorem d_Md_fails_21 : decode m_Md_fails.2.1 21 = .ok (.putfield 188, 3) := by decide +kernel
theorem d_Md_fails_24 : decode m_Md_fails.2.1 24 = .ok (.aload_n 0, 1) := by decide +kernel
theorem d_Md_fails_25 : decode m_Md_fails.2.1 25 = .ok (.aload_n 0, 1) := by decide +kernel
theorem d_Md_fails_26 : decode m_Md_fails.2.1 26 = .ok (.getfield 157, 3) := by decide +kernel
theorem d_Md_fails_29 : decode m_Md_fails.2.1 29 = .ok (.putfield 41, 3) := by decide +kernel
theorem d_Md_fails_16 : decode m_Md_fails.2.1 16 = .ok (.iconst 1, 1) := by decide +kernel
theorem d_Md_fails_17 : decode m_Md_fails.2.1 17 = .ok (.goto 4, 3) := by decide +kernel
theorem d_Md_isIn_0 : decode m_Md_isIn.2.1 0 = .ok (.iload_n 1, 1) := by decide +kernel
theorem d_Md_isIn_1 : decode m_Md_isIn.2.1 1 = .ok (.iload_n 2, 1) := by decide +kernel
theorem d_Md_isIn_2 : decode m_Md_isIn.2.1 2 = .ok (.ishr, 1) := by decide +kernel
theorem d_Md_isIn_3 : decode m_Md_isIn.2.1 3 = .ok (.iconst 1, 1) := by decide +kernel
theorem d_Md_isIn_4 : decode m_Md_isIn.2.1 4 = .ok (.iand, 1) := by decide +kernel
theorem d_Md_isIn_5 : decode m_Md_isIn.2.1 5 = .ok (.iconst 1, 1) := by decide +kernel
theorem d_Md_isIn_6 : decode m_Md_isIn.2.1 6 = .ok (.if_icmp .ne 7, 3) := by decide +kernel
theorem d_Md_isIn_13 : decode m_Md_isIn.2.1 13 = .ok (.iconst 0, 1) := by decide +kernel
theorem d_Md_isIn_14 : decode m_Md_isIn.2.1 14 = .ok (.ireturn, 1) := by decide +kernel
theorem d_Md_isIn_9 : decode m_Md_isIn.2.1 9 = .ok (.iconst 1, 1) := by decide +kernel
theorem d_Md_isIn_10 : decode m_Md_isIn.2.1 10 = .ok (.goto 4, 3) := by decide +kernel
theorem d_Md_aDancer_0 : decode m_Md_aDancer.2.1 0 = .ok (.aload_n 0, 1) := by decide +kernel
theorem d_Md_aDancer_1 : decode m_Md_aDancer.2.1 1 = .ok (.getfield 7, 3) := by decide +kernel
theorem d_Md_aDancer_4 : decode m_Md_aDancer.2.1 4 = .ok (.sipush 2208, 3) := by decide +kernel
theorem d_Md_aDancer_7 : decode m_Md_aDancer.2.1 7 = .ok (.iaload, 1) := by decide +kernel
theorem d_Md_aDancer_8 : decode m_Md_aDancer.2.1 8 = .ok (.istore_n 1, 1) := by decide +kernel
theorem d_Md_aDancer_9 : decode m_Md_aDancer.2.1 9 = .ok (.aload_n 0, 1) := by decide +kernel
theorem d_Md_aDancer_10 : decode m_Md_aDancer.2.1 10 = .ok (.aload_n 0, 1) := by decide +kernel
theorem d_Md_aDancer_11 : decode m_Md_aDancer.2.1 11 = .ok (.getfield 238, 3) := by decide +kernel
theorem d_Md_aDancer_14 : decode m_Md_aDancer.2.1 14 = .ok (.iconst 3, 1) := by decide +kernel
theorem d_Md_aDancer_15 : decode m_Md_aDancer.2.1 15 = .ok (.invokevirtual 241, 3) := by decide +kernel
theorem d_Md_aDancer_18 : decode m_Md_aDancer.2.1 18 = .ok (.ifCond .eq 9, 3) := by decide +kernel
theorem d_Md_aDancer_27 : decode m_Md_aDancer.2.1 27 = .ok (.iload_n 1, 1) := by decide +kernel
theorem d_Md_aDancer_28 : decode m_Md_aDancer.2.1 28 = .ok (.bipush 7, 2) := by decide +kernel
theorem d_Md_aDancer_30 : decode m_Md_aDancer.2.1 30 = .ok (.if_icmp .ne 10, 3) := by decide +kernel
theorem d_Md_aDancer_40 : decode m_Md_aDancer.2.1 40 = .ok (.aload_n 0, 1) := by decide +kernel
theorem d_Md_aDancer_41 : decode m_Md_aDancer.2.1 41 = .ok (.invokevirtual 194, 3) := by decide +kernel
theorem d_Md_aDancer_44 : decode m_Md_aDancer.2.1 44 = .ok (.aload_n 0, 1) := by decide +kernel
theorem d_Md_aDancer_45 : decode m_Md_aDancer.2.1 45 = .ok (.ldc 244, 2) := by decide +kernel
theorem d_Md_aDancer_47 : decode m_Md_aDancer.2.1 47 = .ok (.invokevirtual 246, 3) := by decide +kernel
abbrev m_Md_isName : aw_MI := (⟨"MaypoleGreenModel", "isName", "(Ljava/lang/String;)Z"⟩, prog_14_method_32_code, 2, some .boolean)
theorem lk_Md_246 : Cond.methodLink "MaypoleGreenModel" 246 m_Md_isName.1 ∈ aw_T := aw_in 1518 (by decide +kernel) rfl
theorem k_Md_isName : aw_K m_Md_isName 1 := ⟨aw_in 1521 (by decide +kernel) rfl, aw_in 16 (by decide +kernel) rfl, ⟨by decide, by decide, by decide +kernel⟩, by decide, by decide +kernel⟩
theorem in_Md_isName : Cond.instanceMethod m_Md_isName.1 ∈ aw_T := aw_in 1520 (by decide +kernel) rfl
theorem se_Md_isName : Cond.selects m_Md_isName.1.cls m_Md_isName.1 m_Md_isName.1 ∈ aw_T := aw_inP 68 (by decide +kernel) rfl
theorem d_Md_aDancer_50 : decode m_Md_aDancer.2.1 50 = .ok (.ifCond .ne 9, 3) := by decide +kernel
theorem d_Md_aDancer_59 : decode m_Md_aDancer.2.1 59 = .ok (.aload_n 0, 1) := by decide +kernel
theorem d_Md_aDancer_60 : decode m_Md_aDancer.2.1 60 = .ok (.bipush 28, 2) := by decide +kernel
theorem d_Md_aDancer_62 : decode m_Md_aDancer.2.1 62 = .ok (.iload_n 1, 1) := by decide +kernel
theorem d_Md_aDancer_63 : decode m_Md_aDancer.2.1 63 = .ok (.invokevirtual 250, 3) := by decide +kernel
abbrev m_Md_findHere : aw_MI := (⟨"MaypoleGreenModel", "findHere", "(II)I"⟩, prog_14_method_34_code, 4, some .int)
theorem lk_Md_250 : Cond.methodLink "MaypoleGreenModel" 250 m_Md_findHere.1 ∈ aw_T := aw_in 1522 (by decide +kernel) rfl
theorem k_Md_findHere : aw_K m_Md_findHere 2 := ⟨aw_in 1525 (by decide +kernel) rfl, aw_in 16 (by decide +kernel) rfl, ⟨by decide, by decide, by decide +kernel⟩, by decide, by decide +kernel⟩
theorem in_Md_findHere : Cond.instanceMethod m_Md_findHere.1 ∈ aw_T := aw_in 1524 (by decide +kernel) rfl
theorem se_Md_findHere : Cond.selects m_Md_findHere.1.cls m_Md_findHere.1 m_Md_findHere.1 ∈ aw_T := aw_inP 69 (by decide +kernel) rfl
theorem d_Md_aDancer_66 : decode m_Md_aDancer.2.1 66 = .ok (.iconst (-1), 1) := by decide +kernel
theorem d_Md_aDancer_67 : decode m_Md_aDancer.2.1 67 = .ok (.if_icmp .eq 9, 3) := by decide +kernel
theorem d_Md_aDancer_76 : decode m_Md_aDancer.2.1 76 = .ok (.aload_n 0, 1) := by decide +kernel
theorem d_Md_aDancer_77 : decode m_Md_aDancer.2.1 77 = .ok (.getfield 13, 3) := by decide +kernel
theorem d_Md_aDancer_80 : decode m_Md_aDancer.2.1 80 = .ok (.bipush 28, 2) := by decide +kernel
theorem d_Md_aDancer_82 : decode m_Md_aDancer.2.1 82 = .ok (.iload_n 1, 1) := by decide +kernel
theorem d_Md_aDancer_83 : decode m_Md_aDancer.2.1 83 = .ok (.iadd, 1) := by decide +kernel
theorem d_Md_aDancer_84 : decode m_Md_aDancer.2.1 84 = .ok (.aload_n 0, 1) := by decide +kernel
theorem d_Md_aDancer_85 : decode m_Md_aDancer.2.1 85 = .ok (.invokevirtual 207, 3) := by decide +kernel
abbrev m_Md_nameHere : aw_MI := (⟨"MaypoleGreenModel", "nameHere", "()J"⟩, prog_14_method_33_code, 4, some .long)
theorem lk_Md_207 : Cond.methodLink "MaypoleGreenModel" 207 m_Md_nameHere.1 ∈ aw_T := aw_in 1526 (by decide +kernel) rfl
theorem k_Md_nameHere : aw_K m_Md_nameHere 0 := ⟨aw_in 1529 (by decide +kernel) rfl, aw_in 16 (by decide +kernel) rfl, ⟨by decide, by decide, by decide +kernel⟩, by decide, by decide +kernel⟩
theorem in_Md_nameHere : Cond.instanceMethod m_Md_nameHere.1 ∈ aw_T := aw_in 1528 (by decide +kernel) rfl
theorem se_Md_nameHere : Cond.selects m_Md_nameHere.1.cls m_Md_nameHere.1 m_Md_nameHere.1 ∈ aw_T := aw_inP 70 (by decide +kernel) rfl
theorem d_Md_aDancer_88 : decode m_Md_aDancer.2.1 88 = .ok (.lastore, 1) := by decide +kernel
theorem d_Md_aDancer_89 : decode m_Md_aDancer.2.1 89 = .ok (.aload_n 0, 1) := by decide +kernel
theorem d_Md_aDancer_90 : decode m_Md_aDancer.2.1 90 = .ok (.invokevirtual 194, 3) := by decide +kernel
theorem d_Md_aDancer_93 : decode m_Md_aDancer.2.1 93 = .ok (.aload_n 0, 1) := by decide +kernel
theorem d_Md_aDancer_94 : decode m_Md_aDancer.2.1 94 = .ok (.ldc 244, 2) := by decide +kernel
theorem d_Md_aDancer_96 : decode m_Md_aDancer.2.1 96 = .ok (.iconst 4, 1) := by decide +kernel
theorem d_Md_aDancer_97 : decode m_Md_aDancer.2.1 97 = .ok (.invokevirtual 253, 3) := by decide +kernel
abbrev m_Md_wantWord : aw_MI := (⟨"MaypoleGreenModel", "wantWord", "(Ljava/lang/String;I)Z"⟩, prog_14_method_30_code, 3, some .boolean)
theorem lk_Md_253 : Cond.methodLink "MaypoleGreenModel" 253 m_Md_wantWord.1 ∈ aw_T := aw_in 1530 (by decide +kernel) rfl
theorem k_Md_wantWord : aw_K m_Md_wantWord 2 := ⟨aw_in 1533 (by decide +kernel) rfl, aw_in 16 (by decide +kernel) rfl, ⟨by decide, by decide, by decide +kernel⟩, by decide, by decide +kernel⟩
theorem in_Md_wantWord : Cond.instanceMethod m_Md_wantWord.1 ∈ aw_T := aw_in 1532 (by decide +kernel) rfl
theorem se_Md_wantWord : Cond.selects m_Md_wantWord.1.cls m_Md_wantWord.1 m_Md_wantWord.1 ∈ aw_T := aw_inP 71 (by decide +kernel) rfl
theorem d_Md_aDancer_100 : decode m_Md_aDancer.2.1 100 = .ok (.ifCond .eq 17, 3) := by decide +kernel
theorem d_Md_aDancer_117 : decode m_Md_aDancer.2.1 117 = .ok (.iconst 0, 1) := by decide +kernel
theorem d_Md_aDancer_118 : decode m_Md_aDancer.2.1 118 = .ok (.ireturn, 1) := by decide +kernel
theorem d_Md_aDancer_103 : decode m_Md_aDancer.2.1 103 = .ok (.aload_n 0, 1) := by decide +kernel
theorem d_Md_aDancer_104 : decode m_Md_aDancer.2.1 104 = .ok (.sipush 2218, 3) := by decide +kernel
theorem d_Md_aDancer_107 : decode m_Md_aDancer.2.1 107 = .ok (.iload_n 1, 1) := by decide +kernel
theorem d_Md_aDancer_108 : decode m_Md_aDancer.2.1 108 = .ok (.iadd, 1) := by decide +kernel
theorem d_Md_aDancer_109 : decode m_Md_aDancer.2.1 109 = .ok (.iconst 0, 1) := by decide +kernel
theorem d_Md_aDancer_110 : decode m_Md_aDancer.2.1 110 = .ok (.iconst 5, 1) := by decide +kernel
theorem d_Md_aDancer_111 : decode m_Md_aDancer.2.1 111 = .ok (.invokevirtual 257, 3) := by decide +kernel
theorem d_Md_aDancer_114 : decode m_Md_aDancer.2.1 114 = .ok (.ifCond .ne 5, 3) := by decide +kernel
theorem d_Md_aDancer_119 : decode m_Md_aDancer.2.1 119 = .ok (.aload_n 0, 1) := by decide +kernel
theorem d_Md_aDancer_120 : decode m_Md_aDancer.2.1 120 = .ok (.getfield 7, 3) := by decide +kernel
theorem d_Md_aDancer_123 : decode m_Md_aDancer.2.1 123 = .ok (.sipush 2225, 3) := by decide +kernel
theorem d_Md_aDancer_126 : decode m_Md_aDancer.2.1 126 = .ok (.iload_n 1, 1) := by decide +kernel
theorem d_Md_aDancer_127 : decode m_Md_aDancer.2.1 127 = .ok (.iadd, 1) := by decide +kernel
theorem d_Md_aDancer_128 : decode m_Md_aDancer.2.1 128 = .ok (.iload_n 1, 1) := by decide +kernel
theorem d_Md_aDancer_129 : decode m_Md_aDancer.2.1 129 = .ok (.iastore, 1) := by decide +kernel
theorem d_Md_aDancer_130 : decode m_Md_aDancer.2.1 130 = .ok (.aload_n 0, 1) := by decide +kernel
theorem d_Md_aDancer_131 : decode m_Md_aDancer.2.1 131 = .ok (.getfield 7, 3) := by decide +kernel
theorem d_Md_aDancer_134 : decode m_Md_aDancer.2.1 134 = .ok (.sipush 2208, 3) := by decide +kernel
theorem d_Md_aDancer_137 : decode m_Md_aDancer.2.1 137 = .ok (.dup2, 1) := by decide +kernel
theorem d_Md_aDancer_138 : decode m_Md_aDancer.2.1 138 = .ok (.iaload, 1) := by decide +kernel
theorem d_Md_aDancer_139 : decode m_Md_aDancer.2.1 139 = .ok (.iconst 1, 1) := by decide +kernel
theorem d_Md_aDancer_140 : decode m_Md_aDancer.2.1 140 = .ok (.iadd, 1) := by decide +kernel
theorem d_Md_aDancer_141 : decode m_Md_aDancer.2.1 141 = .ok (.iastore, 1) := by decide +kernel
theorem d_Md_aDancer_142 : decode m_Md_aDancer.2.1 142 = .ok (.iconst 1, 1) := by decide +kernel
theorem d_Md_aDancer_143 : decode m_Md_aDancer.2.1 143 = .ok (.ireturn, 1) := by decide +kernel
theorem d_Md_aDancer_70 : decode m_Md_aDancer.2.1 70 = .ok (.aload_n 0, 1) := by decide +kernel
theorem d_Md_aDancer_71 : decode m_Md_aDancer.2.1 71 = .ok (.iconst 3, 1) := by decide +kernel
theorem d_Md_aDancer_72 : decode m_Md_aDancer.2.1 72 = .ok (.invokevirtual 200, 3) := by decide +kernel
theorem d_Md_aDancer_75 : decode m_Md_aDancer.2.1 75 = .ok (.ireturn, 1) := by decide +kernel
theorem d_Md_aDancer_53 : decode m_Md_aDancer.2.1 53 = .ok (.aload_n 0, 1) := by decide +kernel
theorem d_Md_aDancer_54 : decode m_Md_aDancer.2.1 54 = .ok (.iconst 2, 1) := by decide +kernel
theorem d_Md_aDancer_55 : decode m_Md_aDancer.2.1 55 = .ok (.invokevirtual 200, 3) := by decide +kernel
theorem d_Md_aDancer_58 : decode m_Md_aDancer.2.1 58 = .ok (.ireturn, 1) := by decide +kernel
theorem d_Md_aDancer_33 : decode m_Md_aDancer.2.1 33 = .ok (.aload_n 0, 1) := by decide +kernel
theorem d_Md_aDancer_34 : decode m_Md_aDancer.2.1 34 = .ok (.bipush 6, 2) := by decide +kernel
theorem d_Md_aDancer_36 : decode m_Md_aDancer.2.1 36 = .ok (.invokevirtual 200, 3) := by decide +kernel
theorem d_Md_aDancer_39 : decode m_Md_aDancer.2.1 39 = .ok (.ireturn, 1) := by decide +kernel
theorem d_Md_aDancer_21 : decode m_Md_aDancer.2.1 21 = .ok (.aload_n 0, 1) := by decide +kernel
theorem d_Md_aDancer_22 : decode m_Md_aDancer.2.1 22 = .ok (.iconst 5, 1) := by decide +kernel
theorem d_Md_aDancer_23 : decode m_Md_aDancer.2.1 23 = .ok (.invokevirtual 200, 3) := by decide +kernel
theorem d_Md_aDancer_26 : decode m_Md_aDancer.2.1 26 = .ok (.ireturn, 1) := by decide +kernel
theorem d_Md_isName_0 : decode m_Md_isName.2.1 0 = .ok (.aload_n 0, 1) := by decide +kernel
theorem d_Md_isName_1 : decode m_Md_isName.2.1 1 = .ok (.getfield 163, 3) := by decide +kernel
theorem d_Md_isName_4 : decode m_Md_isName.2.1 4 = .ok (.iconst 2, 1) := by decide +kernel
theorem d_Md_isName_5 : decode m_Md_isName.2.1 5 = .ok (.if_icmp .ne 30, 3) := by decide +kernel
theorem d_Md_isName_35 : decode m_Md_isName.2.1 35 = .ok (.iconst 0, 1) := by decide +kernel
theorem d_Md_isName_36 : decode m_Md_isName.2.1 36 = .ok (.ireturn, 1) := by decide +kernel
theorem d_Md_isName_8 : decode m_Md_isName.2.1 8 = .ok (.aload_n 0, 1) := by decide +kernel
theorem d_Md_isName_9 : decode m_Md_isName.2.1 9 = .ok (.getfield 151, 3) := by decide +kernel
theorem d_Md_isName_12 : decode m_Md_isName.2.1 12 = .ok (.aload_n 0, 1) := by decide +kernel
theorem d_Md_isName_13 : decode m_Md_isName.2.1 13 = .ok (.getfield 157, 3) := by decide +kernel
theorem d_Md_isName_16 : decode m_Md_isName.2.1 16 = .ok (.isub, 1) := by decide +kernel
theorem d_Md_isName_17 : decode m_Md_isName.2.1 17 = .ok (.bipush 8, 2) := by decide +kernel
theorem d_Md_isName_19 : decode m_Md_isName.2.1 19 = .ok (.if_icmp .gt 16, 3) := by decide +kernel
theorem d_Md_isName_22 : decode m_Md_isName.2.1 22 = .ok (.aload_n 0, 1) := by decide +kernel
theorem d_Md_isName_23 : decode m_Md_isName.2.1 23 = .ok (.aload_n 1, 1) := by decide +kernel
theorem d_Md_isName_24 : decode m_Md_isName.2.1 24 = .ok (.invokevirtual 203, 3) := by decide +kernel
theorem d_Md_isName_27 : decode m_Md_isName.2.1 27 = .ok (.iconst (-1), 1) := by decide +kernel
theorem d_Md_isName_28 : decode m_Md_isName.2.1 28 = .ok (.if_icmp .ne 7, 3) := by decide +kernel
theorem d_Md_isName_31 : decode m_Md_isName.2.1 31 = .ok (.iconst 1, 1) := by decide +kernel
theorem d_Md_isName_32 : decode m_Md_isName.2.1 32 = .ok (.goto 4, 3) := by decide +kernel
theorem d_Md_findHere_0 : decode m_Md_findHere.2.1 0 = .ok (.iconst 0, 1) := by decide +kernel
theorem d_Md_findHere_1 : decode m_Md_findHere.2.1 1 = .ok (.istore_n 3, 1) := by decide +kernel
theorem d_Md_findHere_2 : decode m_Md_findHere.2.1 2 = .ok (.iload_n 3, 1) := by decide +kernel
theorem d_Md_findHere_3 : decode m_Md_findHere.2.1 3 = .ok (.iload_n 2, 1) := by decide +kernel
theorem d_Md_findHere_4 : decode m_Md_findHere.2.1 4 = .ok (.if_icmp .ge 27, 3) := by decide +kernel
theorem d_Md_findHere_31 : decode m_Md_findHere.2.1 31 = .ok (.iconst (-1), 1) := by decide +kernel
theorem d_Md_findHere_32 : decode m_Md_findHere.2.1 32 = .ok (.ireturn, 1) := by decide +kernel
theorem d_Md_findHere_7 : decode m_Md_findHere.2.1 7 = .ok (.aload_n 0, 1) := by decide +kernel
theorem d_Md_findHere_8 : decode m_Md_findHere.2.1 8 = .ok (.getfield 13, 3) := by decide +kernel
theorem d_Md_findHere_11 : decode m_Md_findHere.2.1 11 = .ok (.iload_n 1, 1) := by decide +kernel
theorem d_Md_findHere_12 : decode m_Md_findHere.2.1 12 = .ok (.iload_n 3, 1) := by decide +kernel
theorem d_Md_findHere_13 : decode m_Md_findHere.2.1 13 = .ok (.iadd, 1) := by decide +kernel
theorem d_Md_findHere_14 : decode m_Md_findHere.2.1 14 = .ok (.laload, 1) := by decide +kernel
theorem d_Md_findHere_15 : decode m_Md_findHere.2.1 15 = .ok (.aload_n 0, 1) := by decide +kernel
theorem d_Md_findHere_16 : decode m_Md_findHere.2.1 16 = .ok (.invokevirtual 207, 3) := by decide +kernel
theorem d_Md_findHere_19 : decode m_Md_findHere.2.1 19 = .ok (.lcmp, 1) := by decide +kernel
theorem d_Md_findHere_20 : decode m_Md_findHere.2.1 20 = .ok (.ifCond .ne 5, 3) := by decide +kernel
theorem d_Md_findHere_25 : decode m_Md_findHere.2.1 25 = .ok (.iinc 3 1, 3) := by decide +kernel
theorem d_Md_findHere_28 : decode m_Md_findHere.2.1 28 = .ok (.goto (-26), 3) := by decide +kernel
theorem d_Md_findHere_23 : decode m_Md_findHere.2.1 23 = .ok (.iload_n 3, 1) := by decide +kernel
theorem d_Md_findHere_24 : decode m_Md_findHere.2.1 24 = .ok (.ireturn, 1) := by decide +kernel
theorem d_Md_nameHere_0 : decode m_Md_nameHere.2.1 0 = .ok (.lconst 0, 1) := by decide +kernel
theorem d_Md_nameHere_1 : decode m_Md_nameHere.2.1 1 = .ok (.lstore_n 1, 1) := by decide +kernel
theorem d_Md_nameHere_2 : decode m_Md_nameHere.2.1 2 = .ok (.aload_n 0, 1) := by decide +kernel
theorem d_Md_nameHere_3 : decode m_Md_nameHere.2.1 3 = .ok (.getfield 157, 3) := by decide +kernel
theorem d_Md_nameHere_6 : decode m_Md_nameHere.2.1 6 = .ok (.istore_n 3, 1) := by decide +kernel
theorem d_Md_nameHere_7 : decode m_Md_nameHere.2.1 7 = .ok (.iload_n 3, 1) := by decide +kernel
theorem d_Md_nameHere_8 : decode m_Md_nameHere.2.1 8 = .ok (.aload_n 0, 1) := by decide +kernel
theorem d_Md_nameHere_9 : decode m_Md_nameHere.2.1 9 = .ok (.getfield 151, 3) := by decide +kernel
theorem d_Md_nameHere_12 : decode m_Md_nameHere.2.1 12 = .ok (.if_icmp .ge 21, 3) := by decide +kernel
theorem d_Md_nameHere_33 : decode m_Md_nameHere.2.1 33 = .ok (.lload_n 1, 1) := by decide +kernel
theorem d_Md_nameHere_34 : decode m_Md_nameHere.2.1 34 = .ok (.lreturn, 1) := by decide +kernel
theorem d_Md_nameHere_15 : decode m_Md_nameHere.2.1 15 = .ok (.lload_n 1, 1) := by decide +kernel
theorem d_Md_nameHere_16 : decode m_Md_nameHere.2.1 16 = .ok (.bipush 8, 2) := by decide +kernel
theorem d_Md_nameHere_18 : decode m_Md_nameHere.2.1 18 = .ok (.lshl, 1) := by decide +kernel
theorem d_Md_nameHere_19 : decode m_Md_nameHere.2.1 19 = .ok (.aload_n 0, 1) := by decide +kernel
theorem d_Md_nameHere_20 : decode m_Md_nameHere.2.1 20 = .ok (.iload_n 3, 1) := by decide +kernel
theorem d_Md_nameHere_21 : decode m_Md_nameHere.2.1 21 = .ok (.invokevirtual 154, 3) := by decide +kernel
theorem d_Md_nameHere_24 : decode m_Md_nameHere.2.1 24 = .ok (.i2l, 1) := by decide +kernel
theorem d_Md_nameHere_25 : decode m_Md_nameHere.2.1 25 = .ok (.lor, 1) := by decide +kernel
theorem d_Md_nameHere_26 : decode m_Md_nameHere.2.1 26 = .ok (.lstore_n 1, 1) := by decide +kernel
theorem d_Md_nameHere_27 : decode m_Md_nameHere.2.1 27 = .ok (.iinc 3 1, 3) := by decide +kernel
theorem d_Md_nameHere_30 : decode m_Md_nameHere.2.1 30 = .ok (.goto (-23), 3) := by decide +kernel
theorem d_Md_wantWord_0 : decode m_Md_wantWord.2.1 0 = .ok (.aload_n 0, 1) := by decide +kernel
theorem d_Md_wantWord_1 : decode m_Md_wantWord.2.1 1 = .ok (.aload_n 1, 1) := by decide +kernel
theorem d_Md_wantWord_2 : decode m_Md_wantWord.2.1 2 = .ok (.invokevirtual 203, 3) := by decide +kernel
theorem d_Md_wantWord_5 : decode m_Md_wantWord.2.1 5 = .ok (.iload_n 2, 1) := by decide +kernel
theorem d_Md_wantWord_6 : decode m_Md_wantWord.2.1 6 = .ok (.if_icmp .eq 9, 3) := by decide +kernel
theorem d_Md_wantWord_15 : decode m_Md_wantWord.2.1 15 = .ok (.aload_n 0, 1) := by decide +kernel
theorem d_Md_wantWord_16 : decode m_Md_wantWord.2.1 16 = .ok (.invokevirtual 194, 3) := by decide +kernel
theorem d_Md_wantWord_19 : decode m_Md_wantWord.2.1 19 = .ok (.iconst 1, 1) := by decide +kernel
theorem d_Md_wantWord_20 : decode m_Md_wantWord.2.1 20 = .ok (.ireturn, 1) := by decide +kernel
theorem d_Md_wantWord_9 : decode m_Md_wantWord.2.1 9 = .ok (.aload_n 0, 1) := by decide +kernel
theorem d_Md_wantWord_10 : decode m_Md_wantWord.2.1 10 = .ok (.iconst 2, 1) := by decide +kernel
theorem d_Md_wantWord_11 : decode m_Md_wantWord.2.1 11 = .ok (.invokevirtual 200, 3) := by decide +kernel
theorem d_Md_wantWord_14 : decode m_Md_wantWord.2.1 14 = .ok (.ireturn, 1) := by decide +kernel
theorem d_Md_number_0 : decode m_Md_number.2.1 0 = .ok (.aload_n 0, 1) := by decide +kernel
theorem d_Md_number_1 : decode m_Md_number.2.1 1 = .ok (.getfield 163, 3) := by decide +kernel
theorem d_Md_number_4 : decode m_Md_number.2.1 4 = .ok (.iconst 3, 1) := by decide +kernel
theorem d_Md_number_5 : decode m_Md_number.2.1 5 = .ok (.if_icmp .eq 9, 3) := by decide +kernel
theorem d_Md_number_14 : decode m_Md_number.2.1 14 = .ok (.aload_n 0, 1) := by decide +kernel
theorem d_Md_number_15 : decode m_Md_number.2.1 15 = .ok (.getfield 160, 3) := by decide +kernel
theorem d_Md_number_18 : decode m_Md_number.2.1 18 = .ok (.iload_n 2, 1) := by decide +kernel
theorem d_Md_number_19 : decode m_Md_number.2.1 19 = .ok (.if_icmp .lt 11, 3) := by decide +kernel
theorem d_Md_number_30 : decode m_Md_number.2.1 30 = .ok (.aload_n 0, 1) := by decide +kernel
theorem d_Md_number_31 : decode m_Md_number.2.1 31 = .ok (.iconst 4, 1) := by decide +kernel
theorem d_Md_number_32 : decode m_Md_number.2.1 32 = .ok (.invokevirtual 200, 3) := by decide +kernel
theorem d_Md_number_35 : decode m_Md_number.2.1 35 = .ok (.ireturn, 1) := by decide +kernel
theorem d_Md_number_22 : decode m_Md_number.2.1 22 = .ok (.aload_n 0, 1) := by decide +kernel
theorem d_Md_number_23 : decode m_Md_number.2.1 23 = .ok (.getfield 160, 3) := by decide +kernel
theorem d_Md_number_26 : decode m_Md_number.2.1 26 = .ok (.iload_n 3, 1) := by decide +kernel
theorem d_Md_number_27 : decode m_Md_number.2.1 27 = .ok (.if_icmp .le 9, 3) := by decide +kernel
theorem d_Md_number_36 : decode m_Md_number.2.1 36 = .ok (.aload_n 0, 1) := by decide +kernel
theorem d_Md_number_37 : decode m_Md_number.2.1 37 = .ok (.getfield 7, 3) := by decide +kernel
theorem d_Md_number_40 : decode m_Md_number.2.1 40 = .ok (.iload_n 1, 1) := by decide +kernel
theorem d_Md_number_41 : decode m_Md_number.2.1 41 = .ok (.aload_n 0, 1) := by decide +kernel
theorem d_Md_number_42 : decode m_Md_number.2.1 42 = .ok (.getfield 160, 3) := by decide +kernel
theorem d_Md_number_45 : decode m_Md_number.2.1 45 = .ok (.iastore, 1) := by decide +kernel
theorem d_Md_number_46 : decode m_Md_number.2.1 46 = .ok (.aload_n 0, 1) := by decide +kernel
theorem d_Md_number_47 : decode m_Md_number.2.1 47 = .ok (.invokevirtual 194, 3) := by decide +kernel
theorem d_Md_number_50 : decode m_Md_number.2.1 50 = .ok (.iconst 1, 1) := by decide +kernel
theorem d_Md_number_51 : decode m_Md_number.2.1 51 = .ok (.ireturn, 1) := by decide +kernel
theorem d_Md_number_8 : decode m_Md_number.2.1 8 = .ok (.aload_n 0, 1) := by decide +kernel
theorem d_Md_number_9 : decode m_Md_number.2.1 9 = .ok (.iconst 2, 1) := by decide +kernel
theorem d_Md_number_10 : decode m_Md_number.2.1 10 = .ok (.invokevirtual 200, 3) := by decide +kernel
theorem d_Md_number_13 : decode m_Md_number.2.1 13 = .ok (.ireturn, 1) := by decide +kernel
theorem d_Md_wantSign_0 : decode m_Md_wantSign.2.1 0 = .ok (.aload_n 0, 1) := by decide +kernel
theorem d_Md_wantSign_1 : decode m_Md_wantSign.2.1 1 = .ok (.iload_n 1, 1) := by decide +kernel
theorem d_Md_wantSign_2 : decode m_Md_wantSign.2.1 2 = .ok (.invokevirtual 197, 3) := by decide +kernel
abbrev m_Md_isSign : aw_MI := (⟨"MaypoleGreenModel", "isSign", "(I)Z"⟩, prog_14_method_25_code, 2, some .boolean)
theorem lk_Md_197 : Cond.methodLink "MaypoleGreenModel" 197 m_Md_isSign.1 ∈ aw_T := aw_in 1542 (by decide +kernel) rfl
theorem k_Md_isSign : aw_K m_Md_isSign 1 := ⟨aw_in 1545 (by decide +kernel) rfl, aw_in 16 (by decide +kernel) rfl, ⟨by decide, by decide, by decide +kernel⟩, by decide, by decide +kernel⟩
theorem in_Md_isSign : Cond.instanceMethod m_Md_isSign.1 ∈ aw_T := aw_in 1544 (by decide +kernel) rfl
theorem se_Md_isSign : Cond.selects m_Md_isSign.1.cls m_Md_isSign.1 m_Md_isSign.1 ∈ aw_T := aw_inP 74 (by decide +kernel) rfl
theorem d_Md_wantSign_5 : decode m_Md_wantSign.2.1 5 = .ok (.ifCond .ne 9, 3) := by decide +kernel
theorem d_Md_wantSign_14 : decode m_Md_wantSign.2.1 14 = .ok (.aload_n 0, 1) := by decide +kernel
theorem d_Md_wantSign_15 : decode m_Md_wantSign.2.1 15 = .ok (.invokevirtual 194, 3) := by decide +kernel
theorem d_Md_wantSign_18 : decode m_Md_wantSign.2.1 18 = .ok (.iconst 1, 1) := by decide +kernel
theorem d_Md_wantSign_19 : decode m_Md_wantSign.2.1 19 = .ok (.ireturn, 1) := by decide +kernel
theorem d_Md_wantSign_8 : decode m_Md_wantSign.2.1 8 = .ok (.aload_n 0, 1) := by decide +kernel
theorem d_Md_wantSign_9 : decode m_Md_wantSign.2.1 9 = .ok (.iconst 2, 1) := by decide +kernel
theorem d_Md_wantSign_10 : decode m_Md_wantSign.2.1 10 = .ok (.invokevirtual 200, 3) := by decide +kernel
theorem d_Md_wantSign_13 : decode m_Md_wantSign.2.1 13 = .ok (.ireturn, 1) := by decide +kernel
theorem d_Md_isSign_0 : decode m_Md_isSign.2.1 0 = .ok (.aload_n 0, 1) := by decide +kernel
theorem d_Md_isSign_1 : decode m_Md_isSign.2.1 1 = .ok (.getfield 163, 3) := by decide +kernel
theorem d_Md_isSign_4 : decode m_Md_isSign.2.1 4 = .ok (.iconst 4, 1) := by decide +kernel
theorem d_Md_isSign_5 : decode m_Md_isSign.2.1 5 = .ok (.if_icmp .ne 15, 3) := by decide +kernel
theorem d_Md_isSign_20 : decode m_Md_isSign.2.1 20 = .ok (.iconst 0, 1) := by decide +kernel
theorem d_Md_isSign_21 : decode m_Md_isSign.2.1 21 = .ok (.ireturn, 1) := by decide +kernel
theorem d_Md_isSign_8 : decode m_Md_isSign.2.1 8 = .ok (.aload_n 0, 1) := by decide +kernel
theorem d_Md_isSign_9 : decode m_Md_isSign.2.1 9 = .ok (.getfield 160, 3) := by decide +kernel
theorem d_Md_isSign_12 : decode m_Md_isSign.2.1 12 = .ok (.iload_n 1, 1) := by decide +kernel
theorem d_Md_isSign_13 : decode m_Md_isSign.2.1 13 = .ok (.if_icmp .ne 7, 3) := by decide +kernel
theorem d_Md_isSign_16 : decode m_Md_isSign.2.1 16 = .ok (.iconst 1, 1) := by decide +kernel
theorem d_Md_isSign_17 : decode m_Md_isSign.2.1 17 = .ok (.goto 4, 3) := by decide +kernel
theorem d_Md_aPass_0 : decode m_Md_aPass.2.1 0 = .ok (.sipush 2752, 3) := by decide +kernel
theorem d_Md_aPass_3 : decode m_Md_aPass.2.1 3 = .ok (.istore_n 1, 1) := by decide +kernel
theorem d_Md_aPass_4 : decode m_Md_aPass.2.1 4 = .ok (.aload_n 0, 1) := by decide +kernel
theorem d_Md_aPass_5 : decode m_Md_aPass.2.1 5 = .ok (.invokevirtual 194, 3) := by decide +kernel
theorem d_Md_aPass_8 : decode m_Md_aPass.2.1 8 = .ok (.aload_n 0, 1) := by decide +kernel
theorem d_Md_aPass_9 : decode m_Md_aPass.2.1 9 = .ok (.sipush 2208, 3) := by decide +kernel
theorem d_Md_aPass_12 : decode m_Md_aPass.2.1 12 = .ok (.iload_n 1, 1) := by decide +kernel
theorem d_Md_aPass_13 : decode m_Md_aPass.2.1 13 = .ok (.invokevirtual 263, 3) := by decide +kernel
abbrev m_Md_gapTo : aw_MI := (⟨"MaypoleGreenModel", "gapTo", "(II)Z"⟩, prog_14_method_48_code, 3, some .boolean)
theorem lk_Md_263 : Cond.methodLink "MaypoleGreenModel" 263 m_Md_gapTo.1 ∈ aw_T := aw_in 1550 (by decide +kernel) rfl
theorem k_Md_gapTo : aw_K m_Md_gapTo 2 := ⟨aw_in 1553 (by decide +kernel) rfl, aw_in 16 (by decide +kernel) rfl, ⟨by decide, by decide, by decide +kernel⟩, by decide, by decide +kernel⟩
theorem in_Md_gapTo : Cond.instanceMethod m_Md_gapTo.1 ∈ aw_T := aw_in 1552 (by decide +kernel) rfl
theorem se_Md_gapTo : Cond.selects m_Md_gapTo.1.cls m_Md_gapTo.1 m_Md_gapTo.1 ∈ aw_T := aw_inP 76 (by decide +kernel) rfl
theorem d_Md_aPass_16 : decode m_Md_aPass.2.1 16 = .ok (.ifCond .eq 13, 3) := by decide +kernel
theorem d_Md_aPass_29 : decode m_Md_aPass.2.1 29 = .ok (.iconst 0, 1) := by decide +kernel
theorem d_Md_aPass_30 : decode m_Md_aPass.2.1 30 = .ok (.ireturn, 1) := by decide +kernel
theorem d_Md_aPass_19 : decode m_Md_aPass.2.1 19 = .ok (.aload_n 0, 1) := by decide +kernel
theorem d_Md_aPass_20 : decode m_Md_aPass.2.1 20 = .ok (.iload_n 1, 1) := by decide +kernel
theorem d_Md_aPass_21 : decode m_Md_aPass.2.1 21 = .ok (.iconst 1, 1) := by decide +kernel
theorem d_Md_aPass_22 : decode m_Md_aPass.2.1 22 = .ok (.iadd, 1) := by decide +kernel
theorem d_Md_aPass_23 : decode m_Md_aPass.2.1 23 = .ok (.invokevirtual 266, 3) := by decide +kernel
abbrev m_Md_howTo : aw_MI := (⟨"MaypoleGreenModel", "howTo", "(I)Z"⟩, prog_14_method_49_code, 3, some .boolean)
theorem lk_Md_266 : Cond.methodLink "MaypoleGreenModel" 266 m_Md_howTo.1 ∈ aw_T := aw_in 1558 (by decide +kernel) rfl
theorem k_Md_howTo : aw_K m_Md_howTo 1 := ⟨aw_in 1561 (by decide +kernel) rfl, aw_in 16 (by decide +kernel) rfl, ⟨by decide, by decide, by decide +kernel⟩, by decide, by decide +kernel⟩
theorem in_Md_howTo : Cond.instanceMethod m_Md_howTo.1 ∈ aw_T := aw_in 1560 (by decide +kernel) rfl
theorem se_Md_howTo : Cond.selects m_Md_howTo.1.cls m_Md_howTo.1 m_Md_howTo.1 ∈ aw_T := aw_inP 78 (by decide +kernel) rfl
theorem d_Md_aPass_26 : decode m_Md_aPass.2.1 26 = .ok (.ifCond .ne 5, 3) := by decide +kernel
theorem d_Md_aPass_31 : decode m_Md_aPass.2.1 31 = .ok (.aload_n 0, 1) := by decide +kernel
theorem d_Md_aPass_32 : decode m_Md_aPass.2.1 32 = .ok (.sipush 2208, 3) := by decide +kernel
theorem d_Md_aPass_35 : decode m_Md_aPass.2.1 35 = .ok (.aload_n 0, 1) := by decide +kernel
theorem d_Md_aPass_36 : decode m_Md_aPass.2.1 36 = .ok (.getfield 7, 3) := by decide +kernel
theorem d_Md_aPass_39 : decode m_Md_aPass.2.1 39 = .ok (.iload_n 1, 1) := by decide +kernel
theorem d_Md_aPass_40 : decode m_Md_aPass.2.1 40 = .ok (.iaload, 1) := by decide +kernel
theorem d_Md_aPass_41 : decode m_Md_aPass.2.1 41 = .ok (.aload_n 0, 1) := by decide +kernel
theorem d_Md_aPass_42 : decode m_Md_aPass.2.1 42 = .ok (.getfield 7, 3) := by decide +kernel
theorem d_Md_aPass_45 : decode m_Md_aPass.2.1 45 = .ok (.iload_n 1, 1) := by decide +kernel
theorem d_Md_aPass_46 : decode m_Md_aPass.2.1 46 = .ok (.iconst 1, 1) := by decide +kernel
theorem d_Md_aPass_47 : decode m_Md_aPass.2.1 47 = .ok (.iadd, 1) := by decide +kernel
theorem d_Md_aPass_48 : decode m_Md_aPass.2.1 48 = .ok (.iaload, 1) := by decide +kernel
theorem d_Md_aPass_49 : decode m_Md_aPass.2.1 49 = .ok (.invokevirtual 269, 3) := by decide +kernel
abbrev m_Md_dances : aw_MI := (⟨"MaypoleGreenModel", "dances", "(III)I"⟩, prog_14_method_45_code, 8, some .int)
theorem lk_Md_269 : Cond.methodLink "MaypoleGreenModel" 269 m_Md_dances.1 ∈ aw_T := aw_in 1562 (by decide +kernel) rfl
theorem k_Md_dances : aw_K m_Md_dances 3 := ⟨aw_in 1565 (by decide +kernel) rfl, aw_in 16 (by decide +kernel) rfl, ⟨by decide, by decide, by decide +kernel⟩, by decide, by decide +kernel⟩
theorem in_Md_dances : Cond.instanceMethod m_Md_dances.1 ∈ aw_T := aw_in 1564 (by decide +kernel) rfl
theorem se_Md_dances : Cond.selects m_Md_dances.1.cls m_Md_dances.1 m_Md_dances.1 ∈ aw_T := aw_inP 79 (by decide +kernel) rfl
theorem d_Md_aPass_52 : decode m_Md_aPass.2.1 52 = .ok (.ifCond .ne 9, 3) := by decide +kernel
theorem d_Md_aPass_61 : decode m_Md_aPass.2.1 61 = .ok (.aload_n 0, 1) := by decide +kernel
theorem d_Md_aPass_62 : decode m_Md_aPass.2.1 62 = .ok (.invokevirtual 194, 3) := by decide +kernel
theorem d_Md_aPass_65 : decode m_Md_aPass.2.1 65 = .ok (.iconst 1, 1) := by decide +kernel
theorem d_Md_aPass_66 : decode m_Md_aPass.2.1 66 = .ok (.ireturn, 1) := by decide +kernel
theorem d_Md_aPass_55 : decode m_Md_aPass.2.1 55 = .ok (.aload_n 0, 1) := by decide +kernel
theorem d_Md_aPass_56 : decode m_Md_aPass.2.1 56 = .ok (.iconst 5, 1) := by decide +kernel
theorem d_Md_aPass_57 : decode m_Md_aPass.2.1 57 = .ok (.invokevirtual 200, 3) := by decide +kernel
theorem d_Md_aPass_60 : decode m_Md_aPass.2.1 60 = .ok (.ireturn, 1) := by decide +kernel
theorem d_Md_gapTo_0 : decode m_Md_gapTo.2.1 0 = .ok (.aload_n 0, 1) := by decide +kernel
theorem d_Md_gapTo_1 : decode m_Md_gapTo.2.1 1 = .ok (.iload_n 2, 1) := by decide +kernel
theorem d_Md_gapTo_2 : decode m_Md_gapTo.2.1 2 = .ok (.iconst 0, 1) := by decide +kernel
theorem d_Md_gapTo_3 : decode m_Md_gapTo.2.1 3 = .ok (.aload_n 0, 1) := by decide +kernel
theorem d_Md_gapTo_4 : decode m_Md_gapTo.2.1 4 = .ok (.iload_n 1, 1) := by decide +kernel
theorem d_Md_gapTo_5 : decode m_Md_gapTo.2.1 5 = .ok (.invokevirtual 260, 3) := by decide +kernel
abbrev m_Md_gapsOf : aw_MI := (⟨"MaypoleGreenModel", "gapsOf", "(I)I"⟩, prog_14_method_37_code, 3, some .int)
theorem lk_Md_260 : Cond.methodLink "MaypoleGreenModel" 260 m_Md_gapsOf.1 ∈ aw_T := aw_in 1554 (by decide +kernel) rfl
theorem k_Md_gapsOf : aw_K m_Md_gapsOf 1 := ⟨aw_in 1557 (by decide +kernel) rfl, aw_in 16 (by decide +kernel) rfl, ⟨by decide, by decide, by decide +kernel⟩, by decide, by decide +kernel⟩
theorem in_Md_gapsOf : Cond.instanceMethod m_Md_gapsOf.1 ∈ aw_T := aw_in 1556 (by decide +kernel) rfl
theorem se_Md_gapsOf : Cond.selects m_Md_gapsOf.1.cls m_Md_gapsOf.1 m_Md_gapsOf.1 ∈ aw_T := aw_inP 77 (by decide +kernel) rfl
theorem d_Md_gapTo_8 : decode m_Md_gapTo.2.1 8 = .ok (.iconst 1, 1) := by decide +kernel
theorem d_Md_gapTo_9 : decode m_Md_gapTo.2.1 9 = .ok (.isub, 1) := by decide +kernel
theorem d_Md_gapTo_10 : decode m_Md_gapTo.2.1 10 = .ok (.invokevirtual 257, 3) := by decide +kernel
theorem d_Md_gapTo_13 : decode m_Md_gapTo.2.1 13 = .ok (.ireturn, 1) := by decide +kernel
theorem d_Md_gapsOf_0 : decode m_Md_gapsOf.2.1 0 = .ok (.aload_n 0, 1) := by decide +kernel
theorem d_Md_gapsOf_1 : decode m_Md_gapsOf.2.1 1 = .ok (.getfield 7, 3) := by decide +kernel
theorem d_Md_gapsOf_4 : decode m_Md_gapsOf.2.1 4 = .ok (.iload_n 1, 1) := by decide +kernel
theorem d_Md_gapsOf_5 : decode m_Md_gapsOf.2.1 5 = .ok (.iconst 0, 1) := by decide +kernel
theorem d_Md_gapsOf_6 : decode m_Md_gapsOf.2.1 6 = .ok (.iadd, 1) := by decide +kernel
theorem d_Md_gapsOf_7 : decode m_Md_gapsOf.2.1 7 = .ok (.iaload, 1) := by decide +kernel
theorem d_Md_gapsOf_8 : decode m_Md_gapsOf.2.1 8 = .ok (.istore_n 2, 1) := by decide +kernel
theorem d_Md_gapsOf_9 : decode m_Md_gapsOf.2.1 9 = .ok (.iload_n 2, 1) := by decide +kernel
theorem d_Md_gapsOf_10 : decode m_Md_gapsOf.2.1 10 = .ok (.iconst 2, 1) := by decide +kernel
theorem d_Md_gapsOf_11 : decode m_Md_gapsOf.2.1 11 = .ok (.if_icmp .ge 7, 3) := by decide +kernel
theorem d_Md_gapsOf_18 : decode m_Md_gapsOf.2.1 18 = .ok (.iload_n 2, 1) := by decide +kernel
theorem d_Md_gapsOf_19 : decode m_Md_gapsOf.2.1 19 = .ok (.iconst 2, 1) := by decide +kernel
theorem d_Md_gapsOf_20 : decode m_Md_gapsOf.2.1 20 = .ok (.if_icmp .ne 7, 3) := by decide +kernel
theorem d_Md_gapsOf_27 : decode m_Md_gapsOf.2.1 27 = .ok (.iload_n 2, 1) := by decide +kernel
theorem d_Md_gapsOf_28 : decode m_Md_gapsOf.2.1 28 = .ok (.ireturn, 1) := by decide +kernel
theorem d_Md_gapsOf_23 : decode m_Md_gapsOf.2.1 23 = .ok (.iconst 1, 1) := by decide +kernel
theorem d_Md_gapsOf_24 : decode m_Md_gapsOf.2.1 24 = .ok (.goto 4, 3) := by decide +kernel
theorem d_Md_gapsOf_14 : decode m_Md_gapsOf.2.1 14 = .ok (.iconst 0, 1) := by decide +kernel
theorem d_Md_gapsOf_15 : decode m_Md_gapsOf.2.1 15 = .ok (.goto 13, 3) := by decide +kernel
theorem d_Md_howTo_0 : decode m_Md_howTo.2.1 0 = .ok (.aload_n 0, 1) := by decide +kernel
theorem d_Md_howTo_1 : decode m_Md_howTo.2.1 1 = .ok (.ldc 244, 2) := by decide +kernel
theorem d_Md_howTo_3 : decode m_Md_howTo.2.1 3 = .ok (.invokevirtual 203, 3) := by decide +kernel
theorem d_Md_howTo_6 : decode m_Md_howTo.2.1 6 = .ok (.istore_n 2, 1) := by decide +kernel
theorem d_Md_howTo_7 : decode m_Md_howTo.2.1 7 = .ok (.iload_n 2, 1) := by decide +kernel
theorem d_Md_howTo_8 : decode m_Md_howTo.2.1 8 = .ok (.iconst 5, 1) := by decide +kernel
theorem d_Md_howTo_9 : decode m_Md_howTo.2.1 9 = .ok (.if_icmp .eq 15, 3) := by decide +kernel
theorem d_Md_howTo_24 : decode m_Md_howTo.2.1 24 = .ok (.aload_n 0, 1) := by decide +kernel
theorem d_Md_howTo_25 : decode m_Md_howTo.2.1 25 = .ok (.getfield 7, 3) := by decide +kernel
theorem d_Md_howTo_28 : decode m_Md_howTo.2.1 28 = .ok (.iload_n 1, 1) := by decide +kernel
theorem d_Md_howTo_29 : decode m_Md_howTo.2.1 29 = .ok (.iload_n 2, 1) := by decide +kernel
theorem d_Md_howTo_30 : decode m_Md_howTo.2.1 30 = .ok (.iconst 5, 1) := by decide +kernel
theorem d_Md_howTo_31 : decode m_Md_howTo.2.1 31 = .ok (.if_icmp .ne 7, 3) := by decide +kernel
theorem d_Md_howTo_38 : decode m_Md_howTo.2.1 38 = .ok (.iconst 0, 1) := by decide +kernel
theorem d_Md_howTo_39 : decode m_Md_howTo.2.1 39 = .ok (.iastore, 1) := by decide +kernel
theorem d_Md_howTo_40 : decode m_Md_howTo.2.1 40 = .ok (.iconst 1, 1) := by decide +kernel
theorem d_Md_howTo_41 : decode m_Md_howTo.2.1 41 = .ok (.ireturn, 1) := by decide +kernel
theorem d_Md_howTo_34 : decode m_Md_howTo.2.1 34 = .ok (.iconst 1, 1) := by decide +kernel
theorem d_Md_howTo_35 : decode m_Md_howTo.2.1 35 = .ok (.goto 4, 3) := by decide +kernel
theorem d_Md_howTo_12 : decode m_Md_howTo.2.1 12 = .ok (.iload_n 2, 1) := by decide +kernel
theorem d_Md_howTo_13 : decode m_Md_howTo.2.1 13 = .ok (.bipush 6, 2) := by decide +kernel
theorem d_Md_howTo_15 : decode m_Md_howTo.2.1 15 = .ok (.if_icmp .eq 9, 3) := by decide +kernel
theorem d_Md_howTo_18 : decode m_Md_howTo.2.1 18 = .ok (.aload_n 0, 1) := by decide +kernel
theorem d_Md_howTo_19 : decode m_Md_howTo.2.1 19 = .ok (.iconst 2, 1) := by decide +kernel
theorem d_Md_howTo_20 : decode m_Md_howTo.2.1 20 = .ok (.invokevirtual 200, 3) := by decide +kernel
theorem d_Md_howTo_23 : decode m_Md_howTo.2.1 23 = .ok (.ireturn, 1) := by decide +kernel
theorem d_Md_dances_0 : decode m_Md_dances.2.1 0 = .ok (.aload_n 0, 1) := by decide +kernel
theorem d_Md_dances_1 : decode m_Md_dances.2.1 1 = .ok (.iload_n 1, 1) := by decide +kernel
theorem d_Md_dances_2 : decode m_Md_dances.2.1 2 = .ok (.iload_n 2, 1) := by decide +kernel
theorem d_Md_dances_3 : decode m_Md_dances.2.1 3 = .ok (.invokevirtual 221, 3) := by decide +kernel
abbrev m_Md_latestIn : aw_MI := (⟨"MaypoleGreenModel", "latestIn", "(II)I"⟩, prog_14_method_42_code, 5, some .int)
theorem lk_Md_221 : Cond.methodLink "MaypoleGreenModel" 221 m_Md_latestIn.1 ∈ aw_T := aw_in 1566 (by decide +kernel) rfl
theorem k_Md_latestIn : aw_K m_Md_latestIn 2 := ⟨aw_in 1569 (by decide +kernel) rfl, aw_in 16 (by decide +kernel) rfl, ⟨by decide, by decide, by decide +kernel⟩, by decide, by decide +kernel⟩
theorem in_Md_latestIn : Cond.instanceMethod m_Md_latestIn.1 ∈ aw_T := aw_in 1568 (by decide +kernel) rfl
theorem se_Md_latestIn : Cond.selects m_Md_latestIn.1.cls m_Md_latestIn.1 m_Md_latestIn.1 ∈ aw_T := aw_inP 80 (by decide +kernel) rfl
theorem d_Md_dances_6 : decode m_Md_dances.2.1 6 = .ok (.istore 4, 2) := by decide +kernel
theorem d_Md_dances_8 : decode m_Md_dances.2.1 8 = .ok (.iload 4, 2) := by decide +kernel
theorem d_Md_dances_10 : decode m_Md_dances.2.1 10 = .ok (.iconst (-1), 1) := by decide +kernel
theorem d_Md_dances_11 : decode m_Md_dances.2.1 11 = .ok (.if_icmp .eq 46, 3) := by decide +kernel
theorem d_Md_dances_14 : decode m_Md_dances.2.1 14 = .ok (.aload_n 0, 1) := by decide +kernel
theorem d_Md_dances_15 : decode m_Md_dances.2.1 15 = .ok (.getfield 7, 3) := by decide +kernel
theorem d_Md_dances_18 : decode m_Md_dances.2.1 18 = .ok (.iload_n 1, 1) := by decide +kernel
theorem d_Md_dances_19 : decode m_Md_dances.2.1 19 = .ok (.iload 4, 2) := by decide +kernel
theorem d_Md_dances_21 : decode m_Md_dances.2.1 21 = .ok (.invokestatic 211, 3) := by decide +kernel
abbrev m_Md_plaitRow : aw_MI := (⟨"MaypoleGreenModel", "plaitRow", "(I)I"⟩, prog_14_method_39_code, 1, some .int)
theorem lk_Md_211 : Cond.methodLink "MaypoleGreenModel" 211 m_Md_plaitRow.1 ∈ aw_T := aw_in 1570 (by decide +kernel) rfl
theorem k_Md_plaitRow : aw_K m_Md_plaitRow 1 := ⟨aw_in 1572 (by decide +kernel) rfl, aw_in 16 (by decide +kernel) rfl, ⟨by decide, by decide, by decide +kernel⟩, by decide, by decide +kernel⟩
theorem st_Md_plaitRow : Cond.static m_Md_plaitRow.1 ∈ aw_T := aw_in 1571 (by decide +kernel) rfl
theorem d_Md_dances_24 : decode m_Md_dances.2.1 24 = .ok (.iadd, 1) := by decide +kernel
theorem d_Md_dances_25 : decode m_Md_dances.2.1 25 = .ok (.iconst 1, 1) := by decide +kernel
theorem d_Md_dances_26 : decode m_Md_dances.2.1 26 = .ok (.iadd, 1) := by decide +kernel
theorem d_Md_dances_27 : decode m_Md_dances.2.1 27 = .ok (.iaload, 1) := by decide +kernel
theorem d_Md_dances_28 : decode m_Md_dances.2.1 28 = .ok (.iload_n 3, 1) := by decide +kernel
theorem d_Md_dances_29 : decode m_Md_dances.2.1 29 = .ok (.if_icmp .eq 28, 3) := by decide +kernel
theorem d_Md_dances_32 : decode m_Md_dances.2.1 32 = .ok (.aload_n 0, 1) := by decide +kernel
theorem d_Md_dances_33 : decode m_Md_dances.2.1 33 = .ok (.iload_n 1, 1) := by decide +kernel
theorem d_Md_dances_34 : decode m_Md_dances.2.1 34 = .ok (.iload 4, 2) := by decide +kernel
theorem d_Md_dances_36 : decode m_Md_dances.2.1 36 = .ok (.invokevirtual 224, 3) := by decide +kernel
abbrev m_Md_isFreeIn : aw_MI := (⟨"MaypoleGreenModel", "isFreeIn", "(II)Z"⟩, prog_14_method_41_code, 4, some .boolean)
theorem lk_Md_224 : Cond.methodLink "MaypoleGreenModel" 224 m_Md_isFreeIn.1 ∈ aw_T := aw_in 1573 (by decide +kernel) rfl
theorem k_Md_isFreeIn : aw_K m_Md_isFreeIn 2 := ⟨aw_in 1576 (by decide +kernel) rfl, aw_in 16 (by decide +kernel) rfl, ⟨by decide, by decide, by decide +kernel⟩, by decide, by decide +kernel⟩
theorem in_Md_isFreeIn : Cond.instanceMethod m_Md_isFreeIn.1 ∈ aw_T := aw_in 1575 (by decide +kernel) rfl
theorem se_Md_isFreeIn : Cond.selects m_Md_isFreeIn.1.cls m_Md_isFreeIn.1 m_Md_isFreeIn.1 ∈ aw_T := aw_inP 81 (by decide +kernel) rfl
theorem d_Md_dances_39 : decode m_Md_dances.2.1 39 = .ok (.ifCond .eq 18, 3) := by decide +kernel
theorem d_Md_dances_42 : decode m_Md_dances.2.1 42 = .ok (.aload_n 0, 1) := by decide +kernel
theorem d_Md_dances_43 : decode m_Md_dances.2.1 43 = .ok (.iload_n 1, 1) := by decide +kernel
theorem d_Md_dances_44 : decode m_Md_dances.2.1 44 = .ok (.iload_n 2, 1) := by decide +kernel
theorem d_Md_dances_45 : decode m_Md_dances.2.1 45 = .ok (.invokevirtual 228, 3) := by decide +kernel
abbrev m_Md_swaps : aw_MI := (⟨"MaypoleGreenModel", "swaps", "(II)V"⟩, prog_14_method_43_code, 5, none)
theorem lk_Md_228 : Cond.methodLink "MaypoleGreenModel" 228 m_Md_swaps.1 ∈ aw_T := aw_in 1581 (by decide +kernel) rfl
theorem k_Md_swaps : aw_K m_Md_swaps 2 := ⟨aw_in 1584 (by decide +kernel) rfl, aw_in 16 (by decide +kernel) rfl, ⟨by decide, by decide, by decide +kernel⟩, by decide, by decide +kernel⟩
theorem in_Md_swaps : Cond.instanceMethod m_Md_swaps.1 ∈ aw_T := aw_in 1583 (by decide +kernel) rfl
theorem se_Md_swaps : Cond.selects m_Md_swaps.1.cls m_Md_swaps.1 m_Md_swaps.1 ∈ aw_T := aw_inP 83 (by decide +kernel) rfl
theorem d_Md_dances_48 : decode m_Md_dances.2.1 48 = .ok (.aload_n 0, 1) := by decide +kernel
theorem d_Md_dances_49 : decode m_Md_dances.2.1 49 = .ok (.iload_n 1, 1) := by decide +kernel
theorem d_Md_dances_50 : decode m_Md_dances.2.1 50 = .ok (.iload 4, 2) := by decide +kernel
theorem d_Md_dances_52 : decode m_Md_dances.2.1 52 = .ok (.invokevirtual 232, 3) := by decide +kernel
abbrev m_Md_loses : aw_MI := (⟨"MaypoleGreenModel", "loses", "(II)V"⟩, prog_14_method_44_code, 4, none)
theorem lk_Md_232 : Cond.methodLink "MaypoleGreenModel" 232 m_Md_loses.1 ∈ aw_T := aw_in 1585 (by decide +kernel) rfl
theorem k_Md_loses : aw_K m_Md_loses 2 := ⟨aw_in 1588 (by decide +kernel) rfl, aw_in 16 (by decide +kernel) rfl, ⟨by decide, by decide, by decide +kernel⟩, by decide, by decide +kernel⟩
theorem in_Md_loses : Cond.instanceMethod m_Md_loses.1 ∈ aw_T := aw_in 1587 (by decide +kernel) rfl
theorem se_Md_loses : Cond.selects m_Md_loses.1.cls m_Md_loses.1 m_Md_loses.1 ∈ aw_T := aw_inP 84 (by decide +kernel) rfl
theorem d_Md_dances_55 : decode m_Md_dances.2.1 55 = .ok (.iconst 2, 1) := by decide +kernel
theorem d_Md_dances_56 : decode m_Md_dances.2.1 56 = .ok (.ireturn, 1) := by decide +kernel
theorem d_Md_dances_57 : decode m_Md_dances.2.1 57 = .ok (.aload_n 0, 1) := by decide +kernel
theorem d_Md_dances_58 : decode m_Md_dances.2.1 58 = .ok (.getfield 7, 3) := by decide +kernel
theorem d_Md_dances_61 : decode m_Md_dances.2.1 61 = .ok (.iload_n 1, 1) := by decide +kernel
theorem d_Md_dances_62 : decode m_Md_dances.2.1 62 = .ok (.bipush 17, 2) := by decide +kernel
theorem d_Md_dances_64 : decode m_Md_dances.2.1 64 = .ok (.iadd, 1) := by decide +kernel
theorem d_Md_dances_65 : decode m_Md_dances.2.1 65 = .ok (.iload_n 2, 1) := by decide +kernel
theorem d_Md_dances_66 : decode m_Md_dances.2.1 66 = .ok (.iadd, 1) := by decide +kernel
theorem d_Md_dances_67 : decode m_Md_dances.2.1 67 = .ok (.iaload, 1) := by decide +kernel
theorem d_Md_dances_68 : decode m_Md_dances.2.1 68 = .ok (.istore 5, 2) := by decide +kernel
theorem d_Md_dances_70 : decode m_Md_dances.2.1 70 = .ok (.aload_n 0, 1) := by decide +kernel
theorem d_Md_dances_71 : decode m_Md_dances.2.1 71 = .ok (.getfield 7, 3) := by decide +kernel
theorem d_Md_dances_74 : decode m_Md_dances.2.1 74 = .ok (.iload_n 1, 1) := by decide +kernel
theorem d_Md_dances_75 : decode m_Md_dances.2.1 75 = .ok (.bipush 17, 2) := by decide +kernel
theorem d_Md_dances_77 : decode m_Md_dances.2.1 77 = .ok (.iadd, 1) := by decide +kernel
theorem d_Md_dances_78 : decode m_Md_dances.2.1 78 = .ok (.iload_n 2, 1) := by decide +kernel
theorem d_Md_dances_79 : decode m_Md_dances.2.1 79 = .ok (.iconst 1, 1) := by decide +kernel
theorem d_Md_dances_80 : decode m_Md_dances.2.1 80 = .ok (.iadd, 1) := by decide +kernel
theorem d_Md_dances_81 : decode m_Md_dances.2.1 81 = .ok (.aload_n 0, 1) := by decide +kernel
theorem d_Md_dances_82 : decode m_Md_dances.2.1 82 = .ok (.getfield 7, 3) := by decide +kernel
theorem d_Md_dances_85 : decode m_Md_dances.2.1 85 = .ok (.iload_n 1, 1) := by decide +kernel
theorem d_Md_dances_86 : decode m_Md_dances.2.1 86 = .ok (.iconst 0, 1) := by decide +kernel
theorem d_Md_dances_87 : decode m_Md_dances.2.1 87 = .ok (.iadd, 1) := by decide +kernel
theorem d_Md_dances_88 : decode m_Md_dances.2.1 88 = .ok (.iaload, 1) := by decide +kernel
theorem d_Md_dances_89 : decode m_Md_dances.2.1 89 = .ok (.irem, 1) := by decide +kernel
theorem d_Md_dances_90 : decode m_Md_dances.2.1 90 = .ok (.iadd, 1) := by decide +kernel
theorem d_Md_dances_91 : decode m_Md_dances.2.1 91 = .ok (.iaload, 1) := by decide +kernel
theorem d_Md_dances_92 : decode m_Md_dances.2.1 92 = .ok (.istore 6, 2) := by decide +kernel
theorem d_Md_dances_94 : decode m_Md_dances.2.1 94 = .ok (.aload_n 0, 1) := by decide +kernel
theorem d_Md_dances_95 : decode m_Md_dances.2.1 95 = .ok (.getfield 7, 3) := by decide +kernel
theorem d_Md_dances_98 : decode m_Md_dances.2.1 98 = .ok (.iload_n 1, 1) := by decide +kernel
theorem d_Md_dances_99 : decode m_Md_dances.2.1 99 = .ok (.iconst 3, 1) := by decide +kernel
theorem d_Md_dances_100 : decode m_Md_dances.2.1 100 = .ok (.iadd, 1) := by decide +kernel
theorem d_Md_dances_101 : decode m_Md_dances.2.1 101 = .ok (.iaload, 1) := by decide +kernel
theorem d_Md_dances_102 : decode m_Md_dances.2.1 102 = .ok (.bipush 40, 2) := by decide +kernel
theorem d_Md_dances_104 : decode m_Md_dances.2.1 104 = .ok (.if_icmp .eq 23, 3) := by decide +kernel
theorem d_Md_dances_127 : decode m_Md_dances.2.1 127 = .ok (.iconst 0, 1) := by decide +kernel
theorem d_Md_dances_128 : decode m_Md_dances.2.1 128 = .ok (.ireturn, 1) := by decide +kernel
theorem d_Md_dances_107 : decode m_Md_dances.2.1 107 = .ok (.aload_n 0, 1) := by decide +kernel
theorem d_Md_dances_108 : decode m_Md_dances.2.1 108 = .ok (.iload_n 1, 1) := by decide +kernel
theorem d_Md_dances_109 : decode m_Md_dances.2.1 109 = .ok (.iload 5, 2) := by decide +kernel
theorem d_Md_dances_111 : decode m_Md_dances.2.1 111 = .ok (.invokevirtual 235, 3) := by decide +kernel
abbrev m_Md_leftOf : aw_MI := (⟨"MaypoleGreenModel", "leftOf", "(II)I"⟩, prog_14_method_40_code, 6, some .int)
theorem lk_Md_235 : Cond.methodLink "MaypoleGreenModel" 235 m_Md_leftOf.1 ∈ aw_T := aw_in 1589 (by decide +kernel) rfl
theorem k_Md_leftOf : aw_K m_Md_leftOf 2 := ⟨aw_in 1592 (by decide +kernel) rfl, aw_in 16 (by decide +kernel) rfl, ⟨by decide, by decide, by decide +kernel⟩, by decide, by decide +kernel⟩
theorem in_Md_leftOf : Cond.instanceMethod m_Md_leftOf.1 ∈ aw_T := aw_in 1591 (by decide +kernel) rfl
theorem se_Md_leftOf : Cond.selects m_Md_leftOf.1.cls m_Md_leftOf.1 m_Md_leftOf.1 ∈ aw_T := aw_inP 85 (by decide +kernel) rfl
theorem d_Md_dances_114 : decode m_Md_dances.2.1 114 = .ok (.ifCond .eq 13, 3) := by decide +kernel
theorem d_Md_dances_117 : decode m_Md_dances.2.1 117 = .ok (.aload_n 0, 1) := by decide +kernel
theorem d_Md_dances_118 : decode m_Md_dances.2.1 118 = .ok (.iload_n 1, 1) := by decide +kernel
theorem d_Md_dances_119 : decode m_Md_dances.2.1 119 = .ok (.iload 6, 2) := by decide +kernel
theorem d_Md_dances_121 : decode m_Md_dances.2.1 121 = .ok (.invokevirtual 235, 3) := by decide +kernel
theorem d_Md_dances_124 : decode m_Md_dances.2.1 124 = .ok (.ifCond .ne 5, 3) := by decide +kernel
theorem d_Md_dances_129 : decode m_Md_dances.2.1 129 = .ok (.iload_n 1, 1) := by decide +kernel
theorem d_Md_dances_130 : decode m_Md_dances.2.1 130 = .ok (.aload_n 0, 1) := by decide +kernel
theorem d_Md_dances_131 : decode m_Md_dances.2.1 131 = .ok (.getfield 7, 3) := by decide +kernel
theorem d_Md_dances_134 : decode m_Md_dances.2.1 134 = .ok (.iload_n 1, 1) := by decide +kernel
theorem d_Md_dances_135 : decode m_Md_dances.2.1 135 = .ok (.iconst 3, 1) := by decide +kernel
theorem d_Md_dances_136 : decode m_Md_dances.2.1 136 = .ok (.iadd, 1) := by decide +kernel
theorem d_Md_dances_137 : decode m_Md_dances.2.1 137 = .ok (.iaload, 1) := by decide +kernel
theorem d_Md_dances_138 : decode m_Md_dances.2.1 138 = .ok (.invokestatic 211, 3) := by decide +kernel
theorem d_Md_dances_141 : decode m_Md_dances.2.1 141 = .ok (.iadd, 1) := by decide +kernel
theorem d_Md_dances_142 : decode m_Md_dances.2.1 142 = .ok (.istore 7, 2) := by decide +kernel
theorem d_Md_dances_144 : decode m_Md_dances.2.1 144 = .ok (.aload_n 0, 1) := by decide +kernel
theorem d_Md_dances_145 : decode m_Md_dances.2.1 145 = .ok (.getfield 7, 3) := by decide +kernel
theorem d_Md_dances_148 : decode m_Md_dances.2.1 148 = .ok (.iload 7, 2) := by decide +kernel
theorem d_Md_dances_150 : decode m_Md_dances.2.1 150 = .ok (.iload_n 2, 1) := by decide +kernel
theorem d_Md_dances_151 : decode m_Md_dances.2.1 151 = .ok (.iastore, 1) := by decide +kernel
theorem d_Md_dances_152 : decode m_Md_dances.2.1 152 = .ok (.aload_n 0, 1) := by decide +kernel
theorem d_Md_dances_153 : decode m_Md_dances.2.1 153 = .ok (.getfield 7, 3) := by decide +kernel
theorem d_Md_dances_156 : decode m_Md_dances.2.1 156 = .ok (.iload 7, 2) := by decide +kernel
theorem d_Md_dances_158 : decode m_Md_dances.2.1 158 = .ok (.iconst 1, 1) := by decide +kernel
theorem d_Md_dances_159 : decode m_Md_dances.2.1 159 = .ok (.iadd, 1) := by decide +kernel
theorem d_Md_dances_160 : decode m_Md_dances.2.1 160 = .ok (.iload_n 3, 1) := by decide +kernel
theorem d_Md_dances_161 : decode m_Md_dances.2.1 161 = .ok (.iastore, 1) := by decide +kernel
theorem d_Md_dances_162 : decode m_Md_dances.2.1 162 = .ok (.aload_n 0, 1) := by decide +kernel
theorem d_Md_dances_163 : decode m_Md_dances.2.1 163 = .ok (.getfield 7, 3) := by decide +kernel
theorem d_Md_dances_166 : decode m_Md_dances.2.1 166 = .ok (.iload 7, 2) := by decide +kernel
theorem d_Md_dances_168 : decode m_Md_dances.2.1 168 = .ok (.iconst 2, 1) := by decide +kernel
theorem d_Md_dances_169 : decode m_Md_dances.2.1 169 = .ok (.iadd, 1) := by decide +kernel
theorem d_Md_dances_170 : decode m_Md_dances.2.1 170 = .ok (.iload_n 3, 1) := by decide +kernel
theorem d_Md_dances_171 : decode m_Md_dances.2.1 171 = .ok (.iconst 1, 1) := by decide +kernel
theorem d_Md_dances_172 : decode m_Md_dances.2.1 172 = .ok (.if_icmp .ne 8, 3) := by decide +kernel
theorem d_Md_dances_180 : decode m_Md_dances.2.1 180 = .ok (.iload 6, 2) := by decide +kernel
theorem d_Md_dances_182 : decode m_Md_dances.2.1 182 = .ok (.iastore, 1) := by decide +kernel
theorem d_Md_dances_183 : decode m_Md_dances.2.1 183 = .ok (.aload_n 0, 1) := by decide +kernel
theorem d_Md_dances_184 : decode m_Md_dances.2.1 184 = .ok (.getfield 7, 3) := by decide +kernel
theorem d_Md_dances_187 : decode m_Md_dances.2.1 187 = .ok (.iload 7, 2) := by decide +kernel
theorem d_Md_dances_189 : decode m_Md_dances.2.1 189 = .ok (.iconst 3, 1) := by decide +kernel
theorem d_Md_dances_190 : decode m_Md_dances.2.1 190 = .ok (.iadd, 1) := by decide +kernel
theorem d_Md_dances_191 : decode m_Md_dances.2.1 191 = .ok (.iload_n 3, 1) := by decide +kernel
theorem d_Md_dances_192 : decode m_Md_dances.2.1 192 = .ok (.iconst 1, 1) := by decide +kernel
theorem d_Md_dances_193 : decode m_Md_dances.2.1 193 = .ok (.if_icmp .ne 8, 3) := by decide +kernel
theorem d_Md_dances_201 : decode m_Md_dances.2.1 201 = .ok (.iload 5, 2) := by decide +kernel
theorem d_Md_dances_203 : decode m_Md_dances.2.1 203 = .ok (.iastore, 1) := by decide +kernel
theorem d_Md_dances_204 : decode m_Md_dances.2.1 204 = .ok (.aload_n 0, 1) := by decide +kernel
theorem d_Md_dances_205 : decode m_Md_dances.2.1 205 = .ok (.getfield 7, 3) := by decide +kernel
theorem d_Md_dances_208 : decode m_Md_dances.2.1 208 = .ok (.iload_n 1, 1) := by decide +kernel
theorem d_Md_dances_209 : decode m_Md_dances.2.1 209 = .ok (.iconst 3, 1) := by decide +kernel
theorem d_Md_dances_210 : decode m_Md_dances.2.1 210 = .ok (.iadd, 1) := by decide +kernel
theorem d_Md_dances_211 : decode m_Md_dances.2.1 211 = .ok (.dup2, 1) := by decide +kernel
theorem d_Md_dances_212 : decode m_Md_dances.2.1 212 = .ok (.iaload, 1) := by decide +kernel
theorem d_Md_dances_213 : decode m_Md_dances.2.1 213 = .ok (.iconst 1, 1) := by decide +kernel
theorem d_Md_dances_214 : decode m_Md_dances.2.1 214 = .ok (.iadd, 1) := by decide +kernel
theorem d_Md_dances_215 : decode m_Md_dances.2.1 215 = .ok (.iastore, 1) := by decide +kernel
theorem d_Md_dances_216 : decode m_Md_dances.2.1 216 = .ok (.aload_n 0, 1) := by decide +kernel
theorem d_Md_dances_217 : decode m_Md_dances.2.1 217 = .ok (.iload_n 1, 1) := by decide +kernel
theorem d_Md_dances_218 : decode m_Md_dances.2.1 218 = .ok (.iload_n 2, 1) := by decide +kernel
theorem d_Md_dances_219 : decode m_Md_dances.2.1 219 = .ok (.invokevirtual 228, 3) := by decide +kernel
theorem d_Md_dances_222 : decode m_Md_dances.2.1 222 = .ok (.iconst 1, 1) := by decide +kernel
theorem d_Md_dances_223 : decode m_Md_dances.2.1 223 = .ok (.ireturn, 1) := by decide +kernel
theorem d_Md_dances_196 : decode m_Md_dances.2.1 196 = .ok (.iload 6, 2) := by decide +kernel
theorem d_Md_dances_198 : decode m_Md_dances.2.1 198 = .ok (.goto 5, 3) := by decide +kernel
theorem d_Md_dances_175 : decode m_Md_dances.2.1 175 = .ok (.iload 5, 2) := by decide +kernel
theorem d_Md_dances_177 : decode m_Md_dances.2.1 177 = .ok (.goto 5, 3) := by decide +kernel
theorem d_Md_latestIn_0 : decode m_Md_latestIn.2.1 0 = .ok (.iconst (-1), 1) := by decide +kernel
theorem d_Md_latestIn_1 : decode m_Md_latestIn.2.1 1 = .ok (.istore_n 3, 1) := by decide +kernel
theorem d_Md_latestIn_2 : decode m_Md_latestIn.2.1 2 = .ok (.iconst 0, 1) := by decide +kernel
theorem d_Md_latestIn_3 : decode m_Md_latestIn.2.1 3 = .ok (.istore 4, 2) := by decide +kernel
theorem d_Md_latestIn_5 : decode m_Md_latestIn.2.1 5 = .ok (.iload 4, 2) := by decide +kernel
theorem d_Md_latestIn_7 : decode m_Md_latestIn.2.1 7 = .ok (.aload_n 0, 1) := by decide +kernel
theorem d_Md_latestIn_8 : decode m_Md_latestIn.2.1 8 = .ok (.getfield 7, 3) := by decide +kernel
theorem d_Md_latestIn_11 : decode m_Md_latestIn.2.1 11 = .ok (.iload_n 1, 1) := by decide +kernel
theorem d_Md_latestIn_12 : decode m_Md_latestIn.2.1 12 = .ok (.iconst 3, 1) := by decide +kernel
theorem d_Md_latestIn_13 : decode m_Md_latestIn.2.1 13 = .ok (.iadd, 1) := by decide +kernel
theorem d_Md_latestIn_14 : decode m_Md_latestIn.2.1 14 = .ok (.iaload, 1) := by decide +kernel
theorem d_Md_latestIn_15 : decode m_Md_latestIn.2.1 15 = .ok (.if_icmp .ge 28, 3) := by decide +kernel
theorem d_Md_latestIn_43 : decode m_Md_latestIn.2.1 43 = .ok (.iload_n 3, 1) := by decide +kernel
theorem d_Md_latestIn_44 : decode m_Md_latestIn.2.1 44 = .ok (.ireturn, 1) := by decide +kernel
theorem d_Md_latestIn_18 : decode m_Md_latestIn.2.1 18 = .ok (.aload_n 0, 1) := by decide +kernel
theorem d_Md_latestIn_19 : decode m_Md_latestIn.2.1 19 = .ok (.getfield 7, 3) := by decide +kernel
theorem d_Md_latestIn_22 : decode m_Md_latestIn.2.1 22 = .ok (.iload_n 1, 1) := by decide +kernel
theorem d_Md_latestIn_23 : decode m_Md_latestIn.2.1 23 = .ok (.iload 4, 2) := by decide +kernel
theorem d_Md_latestIn_25 : decode m_Md_latestIn.2.1 25 = .ok (.invokestatic 211, 3) := by decide +kernel
theorem d_Md_latestIn_28 : decode m_Md_latestIn.2.1 28 = .ok (.iadd, 1) := by decide +kernel
theorem d_Md_latestIn_29 : decode m_Md_latestIn.2.1 29 = .ok (.iaload, 1) := by decide +kernel
theorem d_Md_latestIn_30 : decode m_Md_latestIn.2.1 30 = .ok (.iload_n 2, 1) := by decide +kernel
theorem d_Md_latestIn_31 : decode m_Md_latestIn.2.1 31 = .ok (.if_icmp .ne 6, 3) := by decide +kernel
theorem d_Md_latestIn_37 : decode m_Md_latestIn.2.1 37 = .ok (.iinc 4 1, 3) := by decide +kernel
theorem d_Md_latestIn_40 : decode m_Md_latestIn.2.1 40 = .ok (.goto (-35), 3) := by decide +kernel
theorem d_Md_latestIn_34 : decode m_Md_latestIn.2.1 34 = .ok (.iload 4, 2) := by decide +kernel
theorem d_Md_latestIn_36 : decode m_Md_latestIn.2.1 36 = .ok (.istore_n 3, 1) := by decide +kernel
theorem d_Md_plaitRow_0 : decode m_Md_plaitRow.2.1 0 = .ok (.bipush 24, 2) := by decide +kernel
theorem d_Md_plaitRow_2 : decode m_Md_plaitRow.2.1 2 = .ok (.iconst 4, 1) := by decide +kernel
theorem d_Md_plaitRow_3 : decode m_Md_plaitRow.2.1 3 = .ok (.iload_n 0, 1) := by decide +kernel
theorem d_Md_plaitRow_4 : decode m_Md_plaitRow.2.1 4 = .ok (.imul, 1) := by decide +kernel
theorem d_Md_plaitRow_5 : decode m_Md_plaitRow.2.1 5 = .ok (.iadd, 1) := by decide +kernel
theorem d_Md_plaitRow_6 : decode m_Md_plaitRow.2.1 6 = .ok (.ireturn, 1) := by decide +kernel
theorem d_Md_isFreeIn_0 : decode m_Md_isFreeIn.2.1 0 = .ok (.iload_n 2, 1) := by decide +kernel
theorem d_Md_isFreeIn_1 : decode m_Md_isFreeIn.2.1 1 = .ok (.iconst 1, 1) := by decide +kernel
theorem d_Md_isFreeIn_2 : decode m_Md_isFreeIn.2.1 2 = .ok (.iadd, 1) := by decide +kernel
theorem d_Md_isFreeIn_3 : decode m_Md_isFreeIn.2.1 3 = .ok (.istore_n 3, 1) := by decide +kernel
theorem d_Md_isFreeIn_4 : decode m_Md_isFreeIn.2.1 4 = .ok (.iload_n 3, 1) := by decide +kernel
theorem d_Md_isFreeIn_5 : decode m_Md_isFreeIn.2.1 5 = .ok (.aload_n 0, 1) := by decide +kernel
theorem d_Md_isFreeIn_6 : decode m_Md_isFreeIn.2.1 6 = .ok (.getfield 7, 3) := by decide +kernel
theorem d_Md_isFreeIn_9 : decode m_Md_isFreeIn.2.1 9 = .ok (.iload_n 1, 1) := by decide +kernel
theorem d_Md_isFreeIn_10 : decode m_Md_isFreeIn.2.1 10 = .ok (.iconst 3, 1) := by decide +kernel
theorem d_Md_isFreeIn_11 : decode m_Md_isFreeIn.2.1 11 = .ok (.iadd, 1) := by decide +kernel
theorem d_Md_isFreeIn_12 : decode m_Md_isFreeIn.2.1 12 = .ok (.iaload, 1) := by decide +kernel
theorem d_Md_isFreeIn_13 : decode m_Md_isFreeIn.2.1 13 = .ok (.if_icmp .ge 41, 3) := by decide +kernel
theorem d_Md_isFreeIn_54 : decode m_Md_isFreeIn.2.1 54 = .ok (.iconst 1, 1) := by decide +kernel
theorem d_Md_isFreeIn_55 : decode m_Md_isFreeIn.2.1 55 = .ok (.ireturn, 1) := by decide +kernel
theorem d_Md_isFreeIn_16 : decode m_Md_isFreeIn.2.1 16 = .ok (.aload_n 0, 1) := by decide +kernel
theorem d_Md_isFreeIn_17 : decode m_Md_isFreeIn.2.1 17 = .ok (.iload_n 1, 1) := by decide +kernel
theorem d_Md_isFreeIn_18 : decode m_Md_isFreeIn.2.1 18 = .ok (.aload_n 0, 1) := by decide +kernel
theorem d_Md_isFreeIn_19 : decode m_Md_isFreeIn.2.1 19 = .ok (.getfield 7, 3) := by decide +kernel
theorem d_Md_isFreeIn_22 : decode m_Md_isFreeIn.2.1 22 = .ok (.iload_n 1, 1) := by decide +kernel
theorem d_Md_isFreeIn_23 : decode m_Md_isFreeIn.2.1 23 = .ok (.iload_n 3, 1) := by decide +kernel
theorem d_Md_isFreeIn_24 : decode m_Md_isFreeIn.2.1 24 = .ok (.invokestatic 211, 3) := by decide +kernel
theorem d_Md_isFreeIn_27 : decode m_Md_isFreeIn.2.1 27 = .ok (.iadd, 1) := by decide +kernel
theorem d_Md_isFreeIn_28 : decode m_Md_isFreeIn.2.1 28 = .ok (.iaload, 1) := by decide +kernel
theorem d_Md_isFreeIn_29 : decode m_Md_isFreeIn.2.1 29 = .ok (.aload_n 0, 1) := by decide +kernel
theorem d_Md_isFreeIn_30 : decode m_Md_isFreeIn.2.1 30 = .ok (.getfield 7, 3) := by decide +kernel
theorem d_Md_isFreeIn_33 : decode m_Md_isFreeIn.2.1 33 = .ok (.iload_n 1, 1) := by decide +kernel
theorem d_Md_isFreeIn_34 : decode m_Md_isFreeIn.2.1 34 = .ok (.iload_n 2, 1) := by decide +kernel
theorem d_Md_isFreeIn_35 : decode m_Md_isFreeIn.2.1 35 = .ok (.invokestatic 211, 3) := by decide +kernel
theorem d_Md_isFreeIn_38 : decode m_Md_isFreeIn.2.1 38 = .ok (.iadd, 1) := by decide +kernel
theorem d_Md_isFreeIn_39 : decode m_Md_isFreeIn.2.1 39 = .ok (.iaload, 1) := by decide +kernel
theorem d_Md_isFreeIn_40 : decode m_Md_isFreeIn.2.1 40 = .ok (.invokevirtual 217, 3) := by decide +kernel
abbrev m_Md_isTouching : aw_MI := (⟨"MaypoleGreenModel", "isTouching", "(III)Z"⟩, prog_14_method_38_code, 6, some .boolean)
theorem lk_Md_217 : Cond.methodLink "MaypoleGreenModel" 217 m_Md_isTouching.1 ∈ aw_T := aw_in 1577 (by decide +kernel) rfl
theorem k_Md_isTouching : aw_K m_Md_isTouching 3 := ⟨aw_in 1580 (by decide +kernel) rfl, aw_in 16 (by decide +kernel) rfl, ⟨by decide, by decide, by decide +kernel⟩, by decide, by decide +kernel⟩
theorem in_Md_isTouching : Cond.instanceMethod m_Md_isTouching.1 ∈ aw_T := aw_in 1579 (by decide +kernel) rfl
theorem se_Md_isTouching : Cond.selects m_Md_isTouching.1.cls m_Md_isTouching.1 m_Md_isTouching.1 ∈ aw_T := aw_inP 82 (by decide +kernel) rfl
theorem d_Md_isFreeIn_43 : decode m_Md_isFreeIn.2.1 43 = .ok (.ifCond .eq 5, 3) := by decide +kernel
theorem d_Md_isFreeIn_48 : decode m_Md_isFreeIn.2.1 48 = .ok (.iinc 3 1, 3) := by decide +kernel
theorem d_Md_isFreeIn_51 : decode m_Md_isFreeIn.2.1 51 = .ok (.goto (-47), 3) := by decide +kernel
theorem d_Md_isFreeIn_46 : decode m_Md_isFreeIn.2.1 46 = .ok (.iconst 0, 1) := by decide +kernel
theorem d_Md_isFreeIn_47 : decode m_Md_isFreeIn.2.1 47 = .ok (.ireturn, 1) := by decide +kernel
theorem d_Md_isTouching_0 : decode m_Md_isTouching.2.1 0 = .ok (.aload_n 0, 1) := by decide +kernel
theorem d_Md_isTouching_1 : decode m_Md_isTouching.2.1 1 = .ok (.getfield 7, 3) := by decide +kernel
theorem d_Md_isTouching_4 : decode m_Md_isTouching.2.1 4 = .ok (.iload_n 1, 1) := by decide +kernel
theorem d_Md_isTouching_5 : decode m_Md_isTouching.2.1 5 = .ok (.iconst 0, 1) := by decide +kernel
theorem d_Md_isTouching_6 : decode m_Md_isTouching.2.1 6 = .ok (.iadd, 1) := by decide +kernel
theorem d_Md_isTouching_7 : decode m_Md_isTouching.2.1 7 = .ok (.iaload, 1) := by decide +kernel
theorem d_Md_isTouching_8 : decode m_Md_isTouching.2.1 8 = .ok (.istore 4, 2) := by decide +kernel
theorem d_Md_isTouching_10 : decode m_Md_isTouching.2.1 10 = .ok (.iload_n 2, 1) := by decide +kernel
theorem d_Md_isTouching_11 : decode m_Md_isTouching.2.1 11 = .ok (.iload_n 3, 1) := by decide +kernel
theorem d_Md_isTouching_12 : decode m_Md_isTouching.2.1 12 = .ok (.isub, 1) := by decide +kernel
theorem d_Md_isTouching_13 : decode m_Md_isTouching.2.1 13 = .ok (.iload 4, 2) := by decide +kernel
theorem d_Md_isTouching_15 : decode m_Md_isTouching.2.1 15 = .ok (.iadd, 1) := by decide +kernel
theorem d_Md_isTouching_16 : decode m_Md_isTouching.2.1 16 = .ok (.iload 4, 2) := by decide +kernel
theorem d_Md_isTouching_18 : decode m_Md_isTouching.2.1 18 = .ok (.irem, 1) := by decide +kernel
theorem d_Md_isTouching_19 : decode m_Md_isTouching.2.1 19 = .ok (.istore 5, 2) := by decide +kernel
theorem d_Md_isTouching_21 : decode m_Md_isTouching.2.1 21 = .ok (.iload 5, 2) := by decide +kernel
theorem d_Md_isTouching_23 : decode m_Md_isTouching.2.1 23 = .ok (.ifCond .eq 24, 3) := by decide +kernel
theorem d_Md_isTouching_47 : decode m_Md_isTouching.2.1 47 = .ok (.iconst 1, 1) := by decide +kernel
theorem d_Md_isTouching_48 : decode m_Md_isTouching.2.1 48 = .ok (.goto 4, 3) := by decide +kernel
theorem d_Md_isTouching_52 : decode m_Md_isTouching.2.1 52 = .ok (.ireturn, 1) := by decide +kernel
theorem d_Md_isTouching_26 : decode m_Md_isTouching.2.1 26 = .ok (.iload 4, 2) := by decide +kernel
theorem d_Md_isTouching_28 : decode m_Md_isTouching.2.1 28 = .ok (.iconst 2, 1) := by decide +kernel
theorem d_Md_isTouching_29 : decode m_Md_isTouching.2.1 29 = .ok (.if_icmp .le 22, 3) := by decide +kernel
theorem d_Md_isTouching_51 : decode m_Md_isTouching.2.1 51 = .ok (.iconst 0, 1) := by decide +kernel
theorem d_Md_isTouching_32 : decode m_Md_isTouching.2.1 32 = .ok (.iload 5, 2) := by decide +kernel
theorem d_Md_isTouching_34 : decode m_Md_isTouching.2.1 34 = .ok (.iconst 1, 1) := by decide +kernel
theorem d_Md_isTouching_35 : decode m_Md_isTouching.2.1 35 = .ok (.if_icmp .eq 12, 3) := by decide +kernel
theorem d_Md_isTouching_38 : decode m_Md_isTouching.2.1 38 = .ok (.iload 5, 2) := by decide +kernel
theorem d_Md_isTouching_40 : decode m_Md_isTouching.2.1 40 = .ok (.iload 4, 2) := by decide +kernel
theorem d_Md_isTouching_42 : decode m_Md_isTouching.2.1 42 = .ok (.iconst 1, 1) := by decide +kernel
theorem d_Md_isTouching_43 : decode m_Md_isTouching.2.1 43 = .ok (.isub, 1) := by decide +kernel
theorem d_Md_isTouching_44 : decode m_Md_isTouching.2.1 44 = .ok (.if_icmp .ne 7, 3) := by decide +kernel
theorem d_Md_swaps_0 : decode m_Md_swaps.2.1 0 = .ok (.iload_n 2, 1) := by decide +kernel
theorem d_Md_swaps_1 : decode m_Md_swaps.2.1 1 = .ok (.iconst 1, 1) := by decide +kernel
theorem d_Md_swaps_2 : decode m_Md_swaps.2.1 2 = .ok (.iadd, 1) := by decide +kernel
theorem d_Md_swaps_3 : decode m_Md_swaps.2.1 3 = .ok (.aload_n 0, 1) := by decide +kernel
theorem d_Md_swaps_4 : decode m_Md_swaps.2.1 4 = .ok (.getfield 7, 3) := by decide +kernel
theorem d_Md_swaps_7 : decode m_Md_swaps.2.1 7 = .ok (.iload_n 1, 1) := by decide +kernel
theorem d_Md_swaps_8 : decode m_Md_swaps.2.1 8 = .ok (.iconst 0, 1) := by decide +kernel
theorem d_Md_swaps_9 : decode m_Md_swaps.2.1 9 = .ok (.iadd, 1) := by decide +kernel
theorem d_Md_swaps_10 : decode m_Md_swaps.2.1 10 = .ok (.iaload, 1) := by decide +kernel
theorem d_Md_swaps_11 : decode m_Md_swaps.2.1 11 = .ok (.irem, 1) := by decide +kernel
theorem d_Md_swaps_12 : decode m_Md_swaps.2.1 12 = .ok (.istore_n 3, 1) := by decide +kernel
theorem d_Md_swaps_13 : decode m_Md_swaps.2.1 13 = .ok (.aload_n 0, 1) := by decide +kernel
theorem d_Md_swaps_14 : decode m_Md_swaps.2.1 14 = .ok (.getfield 7, 3) := by decide +kernel
theorem d_Md_swaps_17 : decode m_Md_swaps.2.1 17 = .ok (.iload_n 1, 1) := by decide +kernel
theorem d_Md_swaps_18 : decode m_Md_swaps.2.1 18 = .ok (.bipush 17, 2) := by decide +kernel
theorem d_Md_swaps_20 : decode m_Md_swaps.2.1 20 = .ok (.iadd, 1) := by decide +kernel
theorem d_Md_swaps_21 : decode m_Md_swaps.2.1 21 = .ok (.iload_n 2, 1) := by decide +kernel
theorem d_Md_swaps_22 : decode m_Md_swaps.2.1 22 = .ok (.iadd, 1) := by decide +kernel
theorem d_Md_swaps_23 : decode m_Md_swaps.2.1 23 = .ok (.iaload, 1) := by decide +kernel
theorem d_Md_swaps_24 : decode m_Md_swaps.2.1 24 = .ok (.istore 4, 2) := by decide +kernel
theorem d_Md_swaps_26 : decode m_Md_swaps.2.1 26 = .ok (.aload_n 0, 1) := by decide +kernel
theorem d_Md_swaps_27 : decode m_Md_swaps.2.1 27 = .ok (.getfield 7, 3) := by decide +kernel
theorem d_Md_swaps_30 : decode m_Md_swaps.2.1 30 = .ok (.iload_n 1, 1) := by decide +kernel
theorem d_Md_swaps_31 : decode m_Md_swaps.2.1 31 = .ok (.bipush 17, 2) := by decide +kernel
theorem d_Md_swaps_33 : decode m_Md_swaps.2.1 33 = .ok (.iadd, 1) := by decide +kernel
theorem d_Md_swaps_34 : decode m_Md_swaps.2.1 34 = .ok (.iload_n 2, 1) := by decide +kernel
theorem d_Md_swaps_35 : decode m_Md_swaps.2.1 35 = .ok (.iadd, 1) := by decide +kernel
theorem d_Md_swaps_36 : decode m_Md_swaps.2.1 36 = .ok (.aload_n 0, 1) := by decide +kernel
theorem d_Md_swaps_37 : decode m_Md_swaps.2.1 37 = .ok (.getfield 7, 3) := by decide +kernel
theorem d_Md_swaps_40 : decode m_Md_swaps.2.1 40 = .ok (.iload_n 1, 1) := by decide +kernel
theorem d_Md_swaps_41 : decode m_Md_swaps.2.1 41 = .ok (.bipush 17, 2) := by decide +kernel
theorem d_Md_swaps_43 : decode m_Md_swaps.2.1 43 = .ok (.iadd, 1) := by decide +kernel
theorem d_Md_swaps_44 : decode m_Md_swaps.2.1 44 = .ok (.iload_n 3, 1) := by decide +kernel
theorem d_Md_swaps_45 : decode m_Md_swaps.2.1 45 = .ok (.iadd, 1) := by decide +kernel
theorem d_Md_swaps_46 : decode m_Md_swaps.2.1 46 = .ok (.iaload, 1) := by decide +kernel
theorem d_Md_swaps_47 : decode m_Md_swaps.2.1 47 = .ok (.iastore, 1) := by decide +kernel
theorem d_Md_swaps_48 : decode m_Md_swaps.2.1 48 = .ok (.aload_n 0, 1) := by decide +kernel
theorem d_Md_swaps_49 : decode m_Md_swaps.2.1 49 = .ok (.getfield 7, 3) := by decide +kernel
theorem d_Md_swaps_52 : decode m_Md_swaps.2.1 52 = .ok (.iload_n 1, 1) := by decide +kernel
theorem d_Md_swaps_53 : decode m_Md_swaps.2.1 53 = .ok (.bipush 17, 2) := by decide +kernel
theorem d_Md_swaps_55 : decode m_Md_swaps.2.1 55 = .ok (.iadd, 1) := by decide +kernel
theorem d_Md_swaps_56 : decode m_Md_swaps.2.1 56 = .ok (.iload_n 3, 1) := by decide +kernel
theorem d_Md_swaps_57 : decode m_Md_swaps.2.1 57 = .ok (.iadd, 1) := by decide +kernel
theorem d_Md_swaps_58 : decode m_Md_swaps.2.1 58 = .ok (.iload 4, 2) := by decide +kernel
theorem d_Md_swaps_60 : decode m_Md_swaps.2.1 60 = .ok (.iastore, 1) := by decide +kernel
theorem d_Md_swaps_61 : decode m_Md_swaps.2.1 61 = .ok (.return_, 1) := by decide +kernel
theorem d_Md_loses_0 : decode m_Md_loses.2.1 0 = .ok (.aload_n 0, 1) := by decide +kernel
theorem d_Md_loses_1 : decode m_Md_loses.2.1 1 = .ok (.getfield 7, 3) := by decide +kernel
theorem d_Md_loses_4 : decode m_Md_loses.2.1 4 = .ok (.iload_n 1, 1) := by decide +kernel
theorem d_Md_loses_5 : decode m_Md_loses.2.1 5 = .ok (.iconst 3, 1) := by decide +kernel
theorem d_Md_loses_6 : decode m_Md_loses.2.1 6 = .ok (.iadd, 1) := by decide +kernel
theorem d_Md_loses_7 : decode m_Md_loses.2.1 7 = .ok (.dup2, 1) := by decide +kernel
theorem d_Md_loses_8 : decode m_Md_loses.2.1 8 = .ok (.iaload, 1) := by decide +kernel
theorem d_Md_loses_9 : decode m_Md_loses.2.1 9 = .ok (.iconst 1, 1) := by decide +kernel
theorem d_Md_loses_10 : decode m_Md_loses.2.1 10 = .ok (.isub, 1) := by decide +kernel
theorem d_Md_loses_11 : decode m_Md_loses.2.1 11 = .ok (.iastore, 1) := by decide +kernel
theorem d_Md_loses_12 : decode m_Md_loses.2.1 12 = .ok (.iload_n 2, 1) := by decide +kernel
theorem d_Md_loses_13 : decode m_Md_loses.2.1 13 = .ok (.invokestatic 211, 3) := by decide +kernel
theorem d_Md_loses_16 : decode m_Md_loses.2.1 16 = .ok (.istore_n 3, 1) := by decide +kernel
theorem d_Md_loses_17 : decode m_Md_loses.2.1 17 = .ok (.iload_n 3, 1) := by decide +kernel
theorem d_Md_loses_18 : decode m_Md_loses.2.1 18 = .ok (.aload_n 0, 1) := by decide +kernel
theorem d_Md_loses_19 : decode m_Md_loses.2.1 19 = .ok (.getfield 7, 3) := by decide +kernel
theorem d_Md_loses_22 : decode m_Md_loses.2.1 22 = .ok (.iload_n 1, 1) := by decide +kernel
theorem d_Md_loses_23 : decode m_Md_loses.2.1 23 = .ok (.iconst 3, 1) := by decide +kernel
theorem d_Md_loses_24 : decode m_Md_loses.2.1 24 = .ok (.iadd, 1) := by decide +kernel
theorem d_Md_loses_25 : decode m_Md_loses.2.1 25 = .ok (.iaload, 1) := by decide +kernel
theorem d_Md_loses_26 : decode m_Md_loses.2.1 26 = .ok (.invokestatic 211, 3) := by decide +kernel
theorem d_Md_loses_29 : decode m_Md_loses.2.1 29 = .ok (.if_icmp .ge 27, 3) := by decide +kernel
theorem d_Md_loses_56 : decode m_Md_loses.2.1 56 = .ok (.return_, 1) := by decide +kernel
theorem d_Md_loses_32 : decode m_Md_loses.2.1 32 = .ok (.aload_n 0, 1) := by decide +kernel
theorem d_Md_loses_33 : decode m_Md_loses.2.1 33 = .ok (.getfield 7, 3) := by decide +kernel
theorem d_Md_loses_36 : decode m_Md_loses.2.1 36 = .ok (.iload_n 1, 1) := by decide +kernel
theorem d_Md_loses_37 : decode m_Md_loses.2.1 37 = .ok (.iload_n 3, 1) := by decide +kernel
theorem d_Md_loses_38 : decode m_Md_loses.2.1 38 = .ok (.iadd, 1) := by decide +kernel
theorem d_Md_loses_39 : decode m_Md_loses.2.1 39 = .ok (.aload_n 0, 1) := by decide +kernel
theorem d_Md_loses_40 : decode m_Md_loses.2.1 40 = .ok (.getfield 7, 3) := by decide +kernel
theorem d_Md_loses_43 : decode m_Md_loses.2.1 43 = .ok (.iload_n 1, 1) := by decide +kernel
theorem d_Md_loses_44 : decode m_Md_loses.2.1 44 = .ok (.iload_n 3, 1) := by decide +kernel
theorem d_Md_loses_45 : decode m_Md_loses.2.1 45 = .ok (.iadd, 1) := by decide +kernel
theorem d_Md_loses_46 : decode m_Md_loses.2.1 46 = .ok (.iconst 4, 1) := by decide +kernel
theorem d_Md_loses_47 : decode m_Md_loses.2.1 47 = .ok (.iadd, 1) := by decide +kernel
theorem d_Md_loses_48 : decode m_Md_loses.2.1 48 = .ok (.iaload, 1) := by decide +kernel
theorem d_Md_loses_49 : decode m_Md_loses.2.1 49 = .ok (.iastore, 1) := by decide +kernel
theorem d_Md_loses_50 : decode m_Md_loses.2.1 50 = .ok (.iinc 3 1, 3) := by decide +kernel
theorem d_Md_loses_53 : decode m_Md_loses.2.1 53 = .ok (.goto (-36), 3) := by decide +kernel
theorem d_Md_leftOf_0 : decode m_Md_leftOf.2.1 0 = .ok (.aload_n 0, 1) := by decide +kernel
theorem d_Md_leftOf_1 : decode m_Md_leftOf.2.1 1 = .ok (.getfield 7, 3) := by decide +kernel
theorem d_Md_leftOf_4 : decode m_Md_leftOf.2.1 4 = .ok (.iload_n 1, 1) := by decide +kernel
theorem d_Md_leftOf_5 : decode m_Md_leftOf.2.1 5 = .ok (.iconst 2, 1) := by decide +kernel
theorem d_Md_leftOf_6 : decode m_Md_leftOf.2.1 6 = .ok (.iadd, 1) := by decide +kernel
theorem d_Md_leftOf_7 : decode m_Md_leftOf.2.1 7 = .ok (.iaload, 1) := by decide +kernel
theorem d_Md_leftOf_8 : decode m_Md_leftOf.2.1 8 = .ok (.istore_n 3, 1) := by decide +kernel
theorem d_Md_leftOf_9 : decode m_Md_leftOf.2.1 9 = .ok (.iconst 0, 1) := by decide +kernel
theorem d_Md_leftOf_10 : decode m_Md_leftOf.2.1 10 = .ok (.istore 4, 2) := by decide +kernel
theorem d_Md_leftOf_12 : decode m_Md_leftOf.2.1 12 = .ok (.iload 4, 2) := by decide +kernel
theorem d_Md_leftOf_14 : decode m_Md_leftOf.2.1 14 = .ok (.aload_n 0, 1) := by decide +kernel
theorem d_Md_leftOf_15 : decode m_Md_leftOf.2.1 15 = .ok (.getfield 7, 3) := by decide +kernel
theorem d_Md_leftOf_18 : decode m_Md_leftOf.2.1 18 = .ok (.iload_n 1, 1) := by decide +kernel
theorem d_Md_leftOf_19 : decode m_Md_leftOf.2.1 19 = .ok (.iconst 3, 1) := by decide +kernel
theorem d_Md_leftOf_20 : decode m_Md_leftOf.2.1 20 = .ok (.iadd, 1) := by decide +kernel
theorem d_Md_leftOf_21 : decode m_Md_leftOf.2.1 21 = .ok (.iaload, 1) := by decide +kernel
theorem d_Md_leftOf_22 : decode m_Md_leftOf.2.1 22 = .ok (.if_icmp .ge 47, 3) := by decide +kernel
theorem d_Md_leftOf_69 : decode m_Md_leftOf.2.1 69 = .ok (.iconst 0, 1) := by decide +kernel
theorem d_Md_leftOf_70 : decode m_Md_leftOf.2.1 70 = .ok (.iload_n 3, 1) := by decide +kernel
theorem d_Md_leftOf_71 : decode m_Md_leftOf.2.1 71 = .ok (.invokestatic 214, 3) := by decide +kernel
theorem lk_Md_214 : Cond.methodLink "MaypoleGreenModel" 214 m_Ma_max.1 ∈ aw_T := aw_in 1593 (by decide +kernel) rfl
theorem d_Md_leftOf_74 : decode m_Md_leftOf.2.1 74 = .ok (.ireturn, 1) := by decide +kernel
theorem d_Md_leftOf_25 : decode m_Md_leftOf.2.1 25 = .ok (.iload_n 1, 1) := by decide +kernel
theorem d_Md_leftOf_26 : decode m_Md_leftOf.2.1 26 = .ok (.iload 4, 2) := by decide +kernel
theorem d_Md_leftOf_28 : decode m_Md_leftOf.2.1 28 = .ok (.invokestatic 211, 3) := by decide +kernel
theorem d_Md_leftOf_31 : decode m_Md_leftOf.2.1 31 = .ok (.iadd, 1) := by decide +kernel
theorem d_Md_leftOf_32 : decode m_Md_leftOf.2.1 32 = .ok (.istore 5, 2) := by decide +kernel
theorem d_Md_leftOf_34 : decode m_Md_leftOf.2.1 34 = .ok (.aload_n 0, 1) := by decide +kernel
theorem d_Md_leftOf_35 : decode m_Md_leftOf.2.1 35 = .ok (.getfield 7, 3) := by decide +kernel
theorem d_Md_leftOf_38 : decode m_Md_leftOf.2.1 38 = .ok (.iload 5, 2) := by decide +kernel
theorem d_Md_leftOf_40 : decode m_Md_leftOf.2.1 40 = .ok (.iconst 2, 1) := by decide +kernel
theorem d_Md_leftOf_41 : decode m_Md_leftOf.2.1 41 = .ok (.iadd, 1) := by decide +kernel
theorem d_Md_leftOf_42 : decode m_Md_leftOf.2.1 42 = .ok (.iaload, 1) := by decide +kernel
theorem d_Md_leftOf_43 : decode m_Md_leftOf.2.1 43 = .ok (.iload_n 2, 1) := by decide +kernel
theorem d_Md_leftOf_44 : decode m_Md_leftOf.2.1 44 = .ok (.if_icmp .eq 16, 3) := by decide +kernel
theorem d_Md_leftOf_60 : decode m_Md_leftOf.2.1 60 = .ok (.iinc 3 (-1), 3) := by decide +kernel
theorem d_Md_leftOf_63 : decode m_Md_leftOf.2.1 63 = .ok (.iinc 4 1, 3) := by decide +kernel
theorem d_Md_leftOf_66 : decode m_Md_leftOf.2.1 66 = .ok (.goto (-54), 3) := by decide +kernel
theorem d_Md_leftOf_47 : decode m_Md_leftOf.2.1 47 = .ok (.aload_n 0, 1) := by decide +kernel
theorem d_Md_leftOf_48 : decode m_Md_leftOf.2.1 48 = .ok (.getfield 7, 3) := by decide +kernel
theorem d_Md_leftOf_51 : decode m_Md_leftOf.2.1 51 = .ok (.iload 5, 2) := by decide +kernel
theorem d_Md_leftOf_53 : decode m_Md_leftOf.2.1 53 = .ok (.iconst 3, 1) := by decide +kernel
theorem d_Md_leftOf_54 : decode m_Md_leftOf.2.1 54 = .ok (.iadd, 1) := by decide +kernel
theorem d_Md_leftOf_55 : decode m_Md_leftOf.2.1 55 = .ok (.iaload, 1) := by decide +kernel
theorem d_Md_leftOf_56 : decode m_Md_leftOf.2.1 56 = .ok (.iload_n 2, 1) := by decide +kernel
theorem d_Md_leftOf_57 : decode m_Md_leftOf.2.1 57 = .ok (.if_icmp .ne 6, 3) := by decide +kernel
theorem d_Md_taken_0 : decode m_Md_taken.2.1 0 = .ok (.aload_n 0, 1) := by decide +kernel
theorem d_Md_taken_1 : decode m_Md_taken.2.1 1 = .ok (.aload_n 0, 1) := by decide +kernel
theorem d_Md_taken_2 : decode m_Md_taken.2.1 2 = .ok (.getfield 188, 3) := by decide +kernel
theorem d_Md_taken_5 : decode m_Md_taken.2.1 5 = .ok (.putfield 37, 3) := by decide +kernel
theorem d_Md_taken_8 : decode m_Md_taken.2.1 8 = .ok (.aload_n 0, 1) := by decide +kernel
theorem d_Md_taken_9 : decode m_Md_taken.2.1 9 = .ok (.getfield 188, 3) := by decide +kernel
theorem d_Md_taken_12 : decode m_Md_taken.2.1 12 = .ok (.ifCond .le 12, 3) := by decide +kernel
theorem d_Md_taken_24 : decode m_Md_taken.2.1 24 = .ok (.aload_n 0, 1) := by decide +kernel
theorem d_Md_taken_25 : decode m_Md_taken.2.1 25 = .ok (.iload_n 1, 1) := by decide +kernel
theorem d_Md_taken_26 : decode m_Md_taken.2.1 26 = .ok (.invokevirtual 122, 3) := by decide +kernel
abbrev m_Md_gives : aw_MI := (⟨"MaypoleGreenModel", "gives", "(I)I"⟩, prog_14_method_8_code, 2, some .int)
theorem lk_Md_122 : Cond.methodLink "MaypoleGreenModel" 122 m_Md_gives.1 ∈ aw_T := aw_in 1598 (by decide +kernel) rfl
theorem k_Md_gives : aw_K m_Md_gives 1 := ⟨aw_in 1601 (by decide +kernel) rfl, aw_in 16 (by decide +kernel) rfl, ⟨by decide, by decide, by decide +kernel⟩, by decide, by decide +kernel⟩
theorem in_Md_gives : Cond.instanceMethod m_Md_gives.1 ∈ aw_T := aw_in 1600 (by decide +kernel) rfl
theorem se_Md_gives : Cond.selects m_Md_gives.1.cls m_Md_gives.1 m_Md_gives.1 ∈ aw_T := aw_inP 87 (by decide +kernel) rfl
theorem d_Md_taken_29 : decode m_Md_taken.2.1 29 = .ok (.ireturn, 1) := by decide +kernel
theorem d_Md_taken_15 : decode m_Md_taken.2.1 15 = .ok (.aload_n 0, 1) := by decide +kernel
theorem d_Md_taken_16 : decode m_Md_taken.2.1 16 = .ok (.bipush 9, 2) := by decide +kernel
theorem d_Md_taken_18 : decode m_Md_taken.2.1 18 = .ok (.invokevirtual 118, 3) := by decide +kernel
theorem d_Md_taken_21 : decode m_Md_taken.2.1 21 = .ok (.goto 8, 3) := by decide +kernel
theorem d_Md_gives_0 : decode m_Md_gives.2.1 0 = .ok (.aload_n 0, 1) := by decide +kernel
theorem d_Md_gives_1 : decode m_Md_gives.2.1 1 = .ok (.iconst 0, 1) := by decide +kernel
theorem d_Md_gives_2 : decode m_Md_gives.2.1 2 = .ok (.putfield 112, 3) := by decide +kernel
theorem d_Md_gives_5 : decode m_Md_gives.2.1 5 = .ok (.iload_n 1, 1) := by decide +kernel
theorem d_Md_gives_6 : decode m_Md_gives.2.1 6 = .ok (.ireturn, 1) := by decide +kernel
abbrev m_Md_feasts : aw_MI := (⟨"MaypoleGreenModel", "feasts", "(I)I"⟩, prog_14_method_58_code, 4, some .int)
theorem k_Md_feasts : aw_K m_Md_feasts 1 := ⟨aw_in 1605 (by decide +kernel) rfl, aw_in 16 (by decide +kernel) rfl, ⟨by decide, by decide, by decide +kernel⟩, by decide, by decide +kernel⟩
theorem d_Md_feasts_0 : decode m_Md_feasts.2.1 0 = .ok (.aload_n 0, 1) := by decide +kernel
theorem d_Md_feasts_1 : decode m_Md_feasts.2.1 1 = .ok (.iload_n 1, 1) := by decide +kernel
theorem d_Md_feasts_2 : decode m_Md_feasts.2.1 2 = .ok (.sipush 300, 3) := by decide +kernel
theorem d_Md_feasts_5 : decode m_Md_feasts.2.1 5 = .ok (.invokevirtual 283, 3) := by decide +kernel
theorem d_Md_feasts_8 : decode m_Md_feasts.2.1 8 = .ok (.ifCond .ne 9, 3) := by decide +kernel
theorem d_Md_feasts_17 : decode m_Md_feasts.2.1 17 = .ok (.aload_n 0, 1) := by decide +kernel
theorem d_Md_feasts_18 : decode m_Md_feasts.2.1 18 = .ok (.getfield 7, 3) := by decide +kernel
theorem d_Md_feasts_21 : decode m_Md_feasts.2.1 21 = .ok (.sipush 2213, 3) := by decide +kernel
theorem d_Md_feasts_24 : decode m_Md_feasts.2.1 24 = .ok (.iconst 0, 1) := by decide +kernel
theorem d_Md_feasts_25 : decode m_Md_feasts.2.1 25 = .ok (.iastore, 1) := by decide +kernel
theorem d_Md_feasts_26 : decode m_Md_feasts.2.1 26 = .ok (.aload_n 0, 1) := by decide +kernel
theorem d_Md_feasts_27 : decode m_Md_feasts.2.1 27 = .ok (.iconst 0, 1) := by decide +kernel
theorem d_Md_feasts_28 : decode m_Md_feasts.2.1 28 = .ok (.putfield 301, 3) := by decide +kernel
theorem f_Md_301 : aw_F "MaypoleGreenModel" 301 11 22 false := ⟨cR11, cT11, 52, fun k => cY11.getD k .int, rfl, ci11, cy11, cn11, rfl, by decide, aw_in 1276 (by decide +kernel) rfl, rfl, rfl, rfl⟩
theorem d_Md_feasts_31 : decode m_Md_feasts.2.1 31 = .ok (.aload_n 0, 1) := by decide +kernel
theorem d_Md_feasts_32 : decode m_Md_feasts.2.1 32 = .ok (.iconst 0, 1) := by decide +kernel
theorem d_Md_feasts_33 : decode m_Md_feasts.2.1 33 = .ok (.putfield 304, 3) := by decide +kernel
theorem f_Md_304 : aw_F "MaypoleGreenModel" 304 11 23 false := ⟨cR11, cT11, 52, fun k => cY11.getD k .int, rfl, ci11, cy11, cn11, rfl, by decide, aw_in 1277 (by decide +kernel) rfl, rfl, rfl, rfl⟩
theorem d_Md_feasts_36 : decode m_Md_feasts.2.1 36 = .ok (.iconst 1, 1) := by decide +kernel
theorem d_Md_feasts_37 : decode m_Md_feasts.2.1 37 = .ok (.istore_n 2, 1) := by decide +kernel
theorem d_Md_feasts_11 : decode m_Md_feasts.2.1 11 = .ok (.aload_n 0, 1) := by decide +kernel
theorem d_Md_feasts_12 : decode m_Md_feasts.2.1 12 = .ok (.iconst 1, 1) := by decide +kernel
theorem d_Md_feasts_13 : decode m_Md_feasts.2.1 13 = .ok (.invokevirtual 118, 3) := by decide +kernel
theorem d_Md_feasts_16 : decode m_Md_feasts.2.1 16 = .ok (.ireturn, 1) := by decide +kernel
theorem d_Md_feasts_38 : decode m_Md_feasts.2.1 38 = .ok (.iload_n 2, 1) := by decide +kernel
theorem d_Md_feasts_39 : decode m_Md_feasts.2.1 39 = .ok (.ifCond .eq 18, 3) := by decide +kernel
theorem d_Md_feasts_57 : decode m_Md_feasts.2.1 57 = .ok (.aload_n 0, 1) := by decide +kernel
theorem d_Md_feasts_58 : decode m_Md_feasts.2.1 58 = .ok (.getfield 188, 3) := by decide +kernel
theorem d_Md_feasts_61 : decode m_Md_feasts.2.1 61 = .ok (.ifCond .ne 16, 3) := by decide +kernel
theorem d_Md_feasts_77 : decode m_Md_feasts.2.1 77 = .ok (.aload_n 0, 1) := by decide +kernel
theorem d_Md_feasts_78 : decode m_Md_feasts.2.1 78 = .ok (.getfield 188, 3) := by decide +kernel
theorem d_Md_feasts_81 : decode m_Md_feasts.2.1 81 = .ok (.ifCond .ne 50, 3) := by decide +kernel
theorem d_Md_feasts_131 : decode m_Md_feasts.2.1 131 = .ok (.aload_n 0, 1) := by decide +kernel
theorem d_Md_feasts_132 : decode m_Md_feasts.2.1 132 = .ok (.aload_n 0, 1) := by decide +kernel
theorem d_Md_feasts_133 : decode m_Md_feasts.2.1 133 = .ok (.getfield 304, 3) := by decide +kernel
theorem d_Md_feasts_136 : decode m_Md_feasts.2.1 136 = .ok (.invokevirtual 289, 3) := by decide +kernel
theorem d_Md_feasts_139 : decode m_Md_feasts.2.1 139 = .ok (.ireturn, 1) := by decide +kernel
theorem d_Md_feasts_84 : decode m_Md_feasts.2.1 84 = .ok (.aload_n 0, 1) := by decide +kernel
theorem d_Md_feasts_85 : decode m_Md_feasts.2.1 85 = .ok (.getfield 7, 3) := by decide +kernel
theorem d_Md_feasts_88 : decode m_Md_feasts.2.1 88 = .ok (.iconst 5, 1) := by decide +kernel
theorem d_Md_feasts_89 : decode m_Md_feasts.2.1 89 = .ok (.aload_n 0, 1) := by decide +kernel
theorem d_Md_feasts_90 : decode m_Md_feasts.2.1 90 = .ok (.getfield 7, 3) := by decide +kernel
theorem d_Md_feasts_93 : decode m_Md_feasts.2.1 93 = .ok (.sipush 2213, 3) := by decide +kernel
theorem d_Md_feasts_96 : decode m_Md_feasts.2.1 96 = .ok (.iaload, 1) := by decide +kernel
theorem d_Md_feasts_97 : decode m_Md_feasts.2.1 97 = .ok (.iastore, 1) := by decide +kernel
theorem d_Md_feasts_98 : decode m_Md_feasts.2.1 98 = .ok (.sipush 184, 3) := by decide +kernel
theorem d_Md_feasts_101 : decode m_Md_feasts.2.1 101 = .ok (.istore_n 3, 1) := by decide +kernel
theorem d_Md_feasts_64 : decode m_Md_feasts.2.1 64 = .ok (.aload_n 0, 1) := by decide +kernel
theorem d_Md_feasts_65 : decode m_Md_feasts.2.1 65 = .ok (.getfield 301, 3) := by decide +kernel
theorem d_Md_feasts_68 : decode m_Md_feasts.2.1 68 = .ok (.ifCond .le 9, 3) := by decide +kernel
theorem d_Md_feasts_71 : decode m_Md_feasts.2.1 71 = .ok (.aload_n 0, 1) := by decide +kernel
theorem d_Md_feasts_72 : decode m_Md_feasts.2.1 72 = .ok (.iconst 2, 1) := by decide +kernel
theorem d_Md_feasts_73 : decode m_Md_feasts.2.1 73 = .ok (.invokevirtual 200, 3) := by decide +kernel
theorem d_Md_feasts_76 : decode m_Md_feasts.2.1 76 = .ok (.pop, 1) := by decide +kernel
theorem d_Md_feasts_42 : decode m_Md_feasts.2.1 42 = .ok (.aload_n 0, 1) := by decide +kernel
theorem d_Md_feasts_43 : decode m_Md_feasts.2.1 43 = .ok (.getfield 163, 3) := by decide +kernel
theorem d_Md_feasts_46 : decode m_Md_feasts.2.1 46 = .ok (.ifCond .eq 11, 3) := by decide +kernel
theorem d_Md_feasts_49 : decode m_Md_feasts.2.1 49 = .ok (.aload_n 0, 1) := by decide +kernel
theorem d_Md_feasts_50 : decode m_Md_feasts.2.1 50 = .ok (.invokevirtual 310, 3) := by decide +kernel
abbrev m_Md_feastStep : aw_MI := (⟨"MaypoleGreenModel", "feastStep", "()Z"⟩, prog_14_method_57_code, 7, some .boolean)
theorem lk_Md_310 : Cond.methodLink "MaypoleGreenModel" 310 m_Md_feastStep.1 ∈ aw_T := aw_in 1606 (by decide +kernel) rfl
theorem k_Md_feastStep : aw_K m_Md_feastStep 0 := ⟨aw_in 1609 (by decide +kernel) rfl, aw_in 16 (by decide +kernel) rfl, ⟨by decide, by decide, by decide +kernel⟩, by decide, by decide +kernel⟩
theorem in_Md_feastStep : Cond.instanceMethod m_Md_feastStep.1 ∈ aw_T := aw_in 1608 (by decide +kernel) rfl
theorem se_Md_feastStep : Cond.selects m_Md_feastStep.1.cls m_Md_feastStep.1 m_Md_feastStep.1 ∈ aw_T := aw_inP 88 (by decide +kernel) rfl
theorem d_Md_feasts_53 : decode m_Md_feasts.2.1 53 = .ok (.istore_n 2, 1) := by decide +kernel
theorem d_Md_feasts_54 : decode m_Md_feasts.2.1 54 = .ok (.goto (-16), 3) := by decide +kernel
theorem d_Md_feasts_102 : decode m_Md_feasts.2.1 102 = .ok (.iload_n 3, 1) := by decide +kernel
theorem d_Md_feasts_103 : decode m_Md_feasts.2.1 103 = .ok (.sipush 544, 3) := by decide +kernel
theorem d_Md_feasts_106 : decode m_Md_feasts.2.1 106 = .ok (.if_icmp .ge 25, 3) := by decide +kernel
theorem d_Md_feasts_109 : decode m_Md_feasts.2.1 109 = .ok (.aload_n 0, 1) := by decide +kernel
theorem d_Md_feasts_110 : decode m_Md_feasts.2.1 110 = .ok (.getfield 7, 3) := by decide +kernel
theorem d_Md_feasts_113 : decode m_Md_feasts.2.1 113 = .ok (.iload_n 3, 1) := by decide +kernel
theorem d_Md_feasts_114 : decode m_Md_feasts.2.1 114 = .ok (.aload_n 0, 1) := by decide +kernel
theorem d_Md_feasts_115 : decode m_Md_feasts.2.1 115 = .ok (.getfield 7, 3) := by decide +kernel
theorem d_Md_feasts_118 : decode m_Md_feasts.2.1 118 = .ok (.sipush 2208, 3) := by decide +kernel
theorem d_Md_feasts_121 : decode m_Md_feasts.2.1 121 = .ok (.iload_n 3, 1) := by decide +kernel
theorem d_Md_feasts_122 : decode m_Md_feasts.2.1 122 = .ok (.iadd, 1) := by decide +kernel
theorem d_Md_feasts_123 : decode m_Md_feasts.2.1 123 = .ok (.iaload, 1) := by decide +kernel
theorem d_Md_feasts_124 : decode m_Md_feasts.2.1 124 = .ok (.iastore, 1) := by decide +kernel
theorem d_Md_feasts_125 : decode m_Md_feasts.2.1 125 = .ok (.iinc 3 1, 3) := by decide +kernel
theorem d_Md_feasts_128 : decode m_Md_feasts.2.1 128 = .ok (.goto (-26), 3) := by decide +kernel
theorem d_Md_feastStep_0 : decode m_Md_feastStep.2.1 0 = .ok (.aload_n 0, 1) := by decide +kernel
theorem d_Md_feastStep_1 : decode m_Md_feastStep.2.1 1 = .ok (.ldc 244, 2) := by decide +kernel
theorem d_Md_feastStep_3 : decode m_Md_feastStep.2.1 3 = .ok (.invokevirtual 203, 3) := by decide +kernel
theorem d_Md_feastStep_6 : decode m_Md_feastStep.2.1 6 = .ok (.istore_n 1, 1) := by decide +kernel
theorem d_Md_feastStep_7 : decode m_Md_feastStep.2.1 7 = .ok (.aload_n 0, 1) := by decide +kernel
theorem d_Md_feastStep_8 : decode m_Md_feastStep.2.1 8 = .ok (.getfield 7, 3) := by decide +kernel
theorem d_Md_feastStep_11 : decode m_Md_feastStep.2.1 11 = .ok (.sipush 2213, 3) := by decide +kernel
theorem d_Md_feastStep_14 : decode m_Md_feastStep.2.1 14 = .ok (.iaload, 1) := by decide +kernel
theorem d_Md_feastStep_15 : decode m_Md_feastStep.2.1 15 = .ok (.istore_n 2, 1) := by decide +kernel
theorem d_Md_feastStep_16 : decode m_Md_feastStep.2.1 16 = .ok (.sipush 2392, 3) := by decide +kernel
theorem d_Md_feastStep_19 : decode m_Md_feastStep.2.1 19 = .ok (.bipush 6, 2) := by decide +kernel
theorem d_Md_feastStep_21 : decode m_Md_feastStep.2.1 21 = .ok (.iload_n 2, 1) := by decide +kernel
theorem d_Md_feastStep_22 : decode m_Md_feastStep.2.1 22 = .ok (.imul, 1) := by decide +kernel
theorem d_Md_feastStep_23 : decode m_Md_feastStep.2.1 23 = .ok (.iadd, 1) := by decide +kernel
theorem d_Md_feastStep_24 : decode m_Md_feastStep.2.1 24 = .ok (.istore_n 3, 1) := by decide +kernel
theorem d_Md_feastStep_25 : decode m_Md_feastStep.2.1 25 = .ok (.iload_n 1, 1) := by decide +kernel
theorem d_Md_feastStep_26 : decode m_Md_feastStep.2.1 26 = .ok (.bipush 11, 2) := by decide +kernel
theorem d_Md_feastStep_28 : decode m_Md_feastStep.2.1 28 = .ok (.if_icmp .eq 9, 3) := by decide +kernel
theorem d_Md_feastStep_37 : decode m_Md_feastStep.2.1 37 = .ok (.iconst 1, 1) := by decide +kernel
theorem d_Md_feastStep_38 : decode m_Md_feastStep.2.1 38 = .ok (.goto 4, 3) := by decide +kernel
theorem d_Md_feastStep_42 : decode m_Md_feastStep.2.1 42 = .ok (.istore 4, 2) := by decide +kernel
theorem d_Md_feastStep_31 : decode m_Md_feastStep.2.1 31 = .ok (.iload_n 1, 1) := by decide +kernel
theorem d_Md_feastStep_32 : decode m_Md_feastStep.2.1 32 = .ok (.bipush 12, 2) := by decide +kernel
theorem d_Md_feastStep_34 : decode m_Md_feastStep.2.1 34 = .ok (.if_icmp .ne 7, 3) := by decide +kernel
theorem d_Md_feastStep_41 : decode m_Md_feastStep.2.1 41 = .ok (.iconst 0, 1) := by decide +kernel
theorem d_Md_feastStep_44 : decode m_Md_feastStep.2.1 44 = .ok (.iload_n 1, 1) := by decide +kernel
theorem d_Md_feastStep_45 : decode m_Md_feastStep.2.1 45 = .ok (.iconst 3, 1) := by decide +kernel
theorem d_Md_feastStep_46 : decode m_Md_feastStep.2.1 46 = .ok (.if_icmp .eq 15, 3) := by decide +kernel
theorem d_Md_feastStep_61 : decode m_Md_feastStep.2.1 61 = .ok (.iconst 1, 1) := by decide +kernel
theorem d_Md_feastStep_62 : decode m_Md_feastStep.2.1 62 = .ok (.goto 4, 3) := by decide +kernel
theorem d_Md_feastStep_66 : decode m_Md_feastStep.2.1 66 = .ok (.istore 5, 2) := by decide +kernel
theorem d_Md_feastStep_49 : decode m_Md_feastStep.2.1 49 = .ok (.iload_n 1, 1) := by decide +kernel
theorem d_Md_feastStep_50 : decode m_Md_feastStep.2.1 50 = .ok (.bipush 7, 2) := by decide +kernel
theorem d_Md_feastStep_52 : decode m_Md_feastStep.2.1 52 = .ok (.if_icmp .lt 13, 3) := by decide +kernel
theorem d_Md_feastStep_65 : decode m_Md_feastStep.2.1 65 = .ok (.iconst 0, 1) := by decide +kernel
theorem d_Md_feastStep_55 : decode m_Md_feastStep.2.1 55 = .ok (.iload_n 1, 1) := by decide +kernel
theorem d_Md_feastStep_56 : decode m_Md_feastStep.2.1 56 = .ok (.bipush 14, 2) := by decide +kernel
theorem d_Md_feastStep_58 : decode m_Md_feastStep.2.1 58 = .ok (.if_icmp .gt 7, 3) := by decide +kernel
theorem d_Md_feastStep_68 : decode m_Md_feastStep.2.1 68 = .ok (.iload 5, 2) := by decide +kernel
theorem d_Md_feastStep_70 : decode m_Md_feastStep.2.1 70 = .ok (.ifCond .eq 16, 3) := by decide +kernel
theorem d_Md_feastStep_86 : decode m_Md_feastStep.2.1 86 = .ok (.aload_n 0, 1) := by decide +kernel
theorem d_Md_feastStep_87 : decode m_Md_feastStep.2.1 87 = .ok (.iconst 2, 1) := by decide +kernel
theorem d_Md_feastStep_88 : decode m_Md_feastStep.2.1 88 = .ok (.invokevirtual 200, 3) := by decide +kernel
theorem d_Md_feastStep_91 : decode m_Md_feastStep.2.1 91 = .ok (.ireturn, 1) := by decide +kernel
theorem d_Md_feastStep_73 : decode m_Md_feastStep.2.1 73 = .ok (.iload_n 1, 1) := by decide +kernel
theorem d_Md_feastStep_74 : decode m_Md_feastStep.2.1 74 = .ok (.bipush 13, 2) := by decide +kernel
theorem d_Md_feastStep_76 : decode m_Md_feastStep.2.1 76 = .ok (.if_icmp .ne 16, 3) := by decide +kernel
theorem d_Md_feastStep_92 : decode m_Md_feastStep.2.1 92 = .ok (.iload_n 1, 1) := by decide +kernel
theorem d_Md_feastStep_93 : decode m_Md_feastStep.2.1 93 = .ok (.bipush 13, 2) := by decide +kernel
theorem d_Md_feastStep_95 : decode m_Md_feastStep.2.1 95 = .ok (.if_icmp .eq 19, 3) := by decide +kernel
theorem d_Md_feastStep_114 : decode m_Md_feastStep.2.1 114 = .ok (.iload 4, 2) := by decide +kernel
theorem d_Md_feastStep_116 : decode m_Md_feastStep.2.1 116 = .ok (.ifCond .eq 18, 3) := by decide +kernel
theorem d_Md_feastStep_134 : decode m_Md_feastStep.2.1 134 = .ok (.aload_n 0, 1) := by decide +kernel
theorem d_Md_feastStep_135 : decode m_Md_feastStep.2.1 135 = .ok (.dup, 1) := by decide +kernel
theorem d_Md_feastStep_136 : decode m_Md_feastStep.2.1 136 = .ok (.getfield 304, 3) := by decide +kernel
theorem d_Md_feastStep_139 : decode m_Md_feastStep.2.1 139 = .ok (.iload_n 1, 1) := by decide +kernel
theorem d_Md_feastStep_140 : decode m_Md_feastStep.2.1 140 = .ok (.bipush 13, 2) := by decide +kernel
theorem d_Md_feastStep_142 : decode m_Md_feastStep.2.1 142 = .ok (.if_icmp .ne 7, 3) := by decide +kernel
theorem d_Md_feastStep_149 : decode m_Md_feastStep.2.1 149 = .ok (.iconst 1, 1) := by decide +kernel
theorem d_Md_feastStep_150 : decode m_Md_feastStep.2.1 150 = .ok (.iadd, 1) := by decide +kernel
theorem d_Md_feastStep_151 : decode m_Md_feastStep.2.1 151 = .ok (.putfield 304, 3) := by decide +kernel
theorem d_Md_feastStep_154 : decode m_Md_feastStep.2.1 154 = .ok (.aload_n 0, 1) := by decide +kernel
theorem d_Md_feastStep_155 : decode m_Md_feastStep.2.1 155 = .ok (.getfield 7, 3) := by decide +kernel
theorem d_Md_feastStep_158 : decode m_Md_feastStep.2.1 158 = .ok (.iload_n 3, 1) := by decide +kernel
theorem d_Md_feastStep_159 : decode m_Md_feastStep.2.1 159 = .ok (.iload_n 1, 1) := by decide +kernel
theorem d_Md_feastStep_160 : decode m_Md_feastStep.2.1 160 = .ok (.iastore, 1) := by decide +kernel
theorem d_Md_feastStep_161 : decode m_Md_feastStep.2.1 161 = .ok (.iconst 1, 1) := by decide +kernel
theorem d_Md_feastStep_162 : decode m_Md_feastStep.2.1 162 = .ok (.istore 6, 2) := by decide +kernel
theorem d_Md_feastStep_145 : decode m_Md_feastStep.2.1 145 = .ok (.iconst 0, 1) := by decide +kernel
theorem d_Md_feastStep_146 : decode m_Md_feastStep.2.1 146 = .ok (.goto 4, 3) := by decide +kernel
theorem d_Md_feastStep_119 : decode m_Md_feastStep.2.1 119 = .ok (.aload_n 0, 1) := by decide +kernel
theorem d_Md_feastStep_120 : decode m_Md_feastStep.2.1 120 = .ok (.getfield 301, 3) := by decide +kernel
theorem d_Md_feastStep_123 : decode m_Md_feastStep.2.1 123 = .ok (.iconst 3, 1) := by decide +kernel
theorem d_Md_feastStep_124 : decode m_Md_feastStep.2.1 124 = .ok (.if_icmp .ne 10, 3) := by decide +kernel
theorem d_Md_feastStep_127 : decode m_Md_feastStep.2.1 127 = .ok (.aload_n 0, 1) := by decide +kernel
theorem d_Md_feastStep_128 : decode m_Md_feastStep.2.1 128 = .ok (.bipush 7, 2) := by decide +kernel
theorem d_Md_feastStep_130 : decode m_Md_feastStep.2.1 130 = .ok (.invokevirtual 200, 3) := by decide +kernel
theorem d_Md_feastStep_133 : decode m_Md_feastStep.2.1 133 = .ok (.ireturn, 1) := by decide +kernel
theorem d_Md_feastStep_98 : decode m_Md_feastStep.2.1 98 = .ok (.aload_n 0, 1) := by decide +kernel
theorem d_Md_feastStep_99 : decode m_Md_feastStep.2.1 99 = .ok (.getfield 304, 3) := by decide +kernel
theorem d_Md_feastStep_102 : decode m_Md_feastStep.2.1 102 = .ok (.bipush 30, 2) := by decide +kernel
theorem d_Md_feastStep_104 : decode m_Md_feastStep.2.1 104 = .ok (.if_icmp .ne 10, 3) := by decide +kernel
theorem d_Md_feastStep_107 : decode m_Md_feastStep.2.1 107 = .ok (.aload_n 0, 1) := by decide +kernel
theorem d_Md_feastStep_108 : decode m_Md_feastStep.2.1 108 = .ok (.bipush 6, 2) := by decide +kernel
theorem d_Md_feastStep_110 : decode m_Md_feastStep.2.1 110 = .ok (.invokevirtual 200, 3) := by decide +kernel
theorem d_Md_feastStep_113 : decode m_Md_feastStep.2.1 113 = .ok (.ireturn, 1) := by decide +kernel
theorem d_Md_feastStep_79 : decode m_Md_feastStep.2.1 79 = .ok (.aload_n 0, 1) := by decide +kernel
theorem d_Md_feastStep_80 : decode m_Md_feastStep.2.1 80 = .ok (.getfield 301, 3) := by decide +kernel
theorem d_Md_feastStep_83 : decode m_Md_feastStep.2.1 83 = .ok (.ifCond .ne 9, 3) := by decide +kernel
theorem d_Md_feastStep_164 : decode m_Md_feastStep.2.1 164 = .ok (.iload 6, 2) := by decide +kernel
theorem d_Md_feastStep_166 : decode m_Md_feastStep.2.1 166 = .ok (.bipush 6, 2) := by decide +kernel
theorem d_Md_feastStep_168 : decode m_Md_feastStep.2.1 168 = .ok (.if_icmp .ge 19, 3) := by decide +kernel
theorem d_Md_feastStep_187 : decode m_Md_feastStep.2.1 187 = .ok (.aload_n 0, 1) := by decide +kernel
theorem d_Md_feastStep_188 : decode m_Md_feastStep.2.1 188 = .ok (.getfield 7, 3) := by decide +kernel
theorem d_Md_feastStep_191 : decode m_Md_feastStep.2.1 191 = .ok (.sipush 2213, 3) := by decide +kernel
theorem d_Md_feastStep_194 : decode m_Md_feastStep.2.1 194 = .ok (.dup2, 1) := by decide +kernel
theorem d_Md_feastStep_195 : decode m_Md_feastStep.2.1 195 = .ok (.iaload, 1) := by decide +kernel
theorem d_Md_feastStep_196 : decode m_Md_feastStep.2.1 196 = .ok (.iconst 1, 1) := by decide +kernel
theorem d_Md_feastStep_197 : decode m_Md_feastStep.2.1 197 = .ok (.iadd, 1) := by decide +kernel
theorem d_Md_feastStep_198 : decode m_Md_feastStep.2.1 198 = .ok (.iastore, 1) := by decide +kernel
theorem d_Md_feastStep_199 : decode m_Md_feastStep.2.1 199 = .ok (.aload_n 0, 1) := by decide +kernel
theorem d_Md_feastStep_200 : decode m_Md_feastStep.2.1 200 = .ok (.invokevirtual 194, 3) := by decide +kernel
theorem d_Md_feastStep_203 : decode m_Md_feastStep.2.1 203 = .ok (.aload_n 0, 1) := by decide +kernel
theorem d_Md_feastStep_204 : decode m_Md_feastStep.2.1 204 = .ok (.iload_n 1, 1) := by decide +kernel
theorem d_Md_feastStep_205 : decode m_Md_feastStep.2.1 205 = .ok (.iload_n 3, 1) := by decide +kernel
theorem d_Md_feastStep_206 : decode m_Md_feastStep.2.1 206 = .ok (.invokevirtual 307, 3) := by decide +kernel
abbrev m_Md_feastOrder : aw_MI := (⟨"MaypoleGreenModel", "feastOrder", "(II)Z"⟩, prog_14_method_56_code, 3, some .boolean)
theorem lk_Md_307 : Cond.methodLink "MaypoleGreenModel" 307 m_Md_feastOrder.1 ∈ aw_T := aw_in 1610 (by decide +kernel) rfl
theorem k_Md_feastOrder : aw_K m_Md_feastOrder 2 := ⟨aw_in 1613 (by decide +kernel) rfl, aw_in 16 (by decide +kernel) rfl, ⟨by decide, by decide, by decide +kernel⟩, by decide, by decide +kernel⟩
theorem in_Md_feastOrder : Cond.instanceMethod m_Md_feastOrder.1 ∈ aw_T := aw_in 1612 (by decide +kernel) rfl
theorem se_Md_feastOrder : Cond.selects m_Md_feastOrder.1.cls m_Md_feastOrder.1 m_Md_feastOrder.1 ∈ aw_T := aw_inP 89 (by decide +kernel) rfl
theorem d_Md_feastStep_209 : decode m_Md_feastStep.2.1 209 = .ok (.ifCond .ne 5, 3) := by decide +kernel
theorem d_Md_feastStep_214 : decode m_Md_feastStep.2.1 214 = .ok (.iload 4, 2) := by decide +kernel
theorem d_Md_feastStep_216 : decode m_Md_feastStep.2.1 216 = .ok (.ifCond .eq 23, 3) := by decide +kernel
theorem d_Md_feastStep_239 : decode m_Md_feastStep.2.1 239 = .ok (.iload_n 1, 1) := by decide +kernel
theorem d_Md_feastStep_240 : decode m_Md_feastStep.2.1 240 = .ok (.bipush 13, 2) := by decide +kernel
theorem d_Md_feastStep_242 : decode m_Md_feastStep.2.1 242 = .ok (.if_icmp .ne 54, 3) := by decide +kernel
theorem d_Md_feastStep_296 : decode m_Md_feastStep.2.1 296 = .ok (.aload_n 0, 1) := by decide +kernel
theorem d_Md_feastStep_297 : decode m_Md_feastStep.2.1 297 = .ok (.bipush 59, 2) := by decide +kernel
theorem d_Md_feastStep_299 : decode m_Md_feastStep.2.1 299 = .ok (.invokevirtual 277, 3) := by decide +kernel
theorem d_Md_feastStep_302 : decode m_Md_feastStep.2.1 302 = .ok (.ireturn, 1) := by decide +kernel
theorem d_Md_feastStep_245 : decode m_Md_feastStep.2.1 245 = .ok (.aload_n 0, 1) := by decide +kernel
theorem d_Md_feastStep_246 : decode m_Md_feastStep.2.1 246 = .ok (.dup, 1) := by decide +kernel
theorem d_Md_feastStep_247 : decode m_Md_feastStep.2.1 247 = .ok (.getfield 301, 3) := by decide +kernel
theorem d_Md_feastStep_250 : decode m_Md_feastStep.2.1 250 = .ok (.iconst 1, 1) := by decide +kernel
theorem d_Md_feastStep_251 : decode m_Md_feastStep.2.1 251 = .ok (.isub, 1) := by decide +kernel
theorem d_Md_feastStep_252 : decode m_Md_feastStep.2.1 252 = .ok (.putfield 301, 3) := by decide +kernel
theorem d_Md_feastStep_255 : decode m_Md_feastStep.2.1 255 = .ok (.aload_n 0, 1) := by decide +kernel
theorem d_Md_feastStep_256 : decode m_Md_feastStep.2.1 256 = .ok (.getfield 7, 3) := by decide +kernel
theorem d_Md_feastStep_259 : decode m_Md_feastStep.2.1 259 = .ok (.iload_n 3, 1) := by decide +kernel
theorem d_Md_feastStep_260 : decode m_Md_feastStep.2.1 260 = .ok (.iconst 4, 1) := by decide +kernel
theorem d_Md_feastStep_261 : decode m_Md_feastStep.2.1 261 = .ok (.iadd, 1) := by decide +kernel
theorem d_Md_feastStep_262 : decode m_Md_feastStep.2.1 262 = .ok (.aload_n 0, 1) := by decide +kernel
theorem d_Md_feastStep_263 : decode m_Md_feastStep.2.1 263 = .ok (.getfield 44, 3) := by decide +kernel
theorem f_Md_44 : aw_F "MaypoleGreenModel" 44 11 21 true := ⟨cR11, cT11, 52, fun k => cY11.getD k .int, rfl, ci11, cy11, cn11, rfl, by decide, aw_in 1275 (by decide +kernel) rfl, rfl, rfl, rfl⟩
theorem d_Md_feastStep_266 : decode m_Md_feastStep.2.1 266 = .ok (.aload_n 0, 1) := by decide +kernel
theorem d_Md_feastStep_267 : decode m_Md_feastStep.2.1 267 = .ok (.getfield 301, 3) := by decide +kernel
theorem d_Md_feastStep_270 : decode m_Md_feastStep.2.1 270 = .ok (.iaload, 1) := by decide +kernel
theorem d_Md_feastStep_271 : decode m_Md_feastStep.2.1 271 = .ok (.iastore, 1) := by decide +kernel
theorem d_Md_feastStep_272 : decode m_Md_feastStep.2.1 272 = .ok (.aload_n 0, 1) := by decide +kernel
theorem d_Md_feastStep_273 : decode m_Md_feastStep.2.1 273 = .ok (.getfield 7, 3) := by decide +kernel
theorem d_Md_feastStep_276 : decode m_Md_feastStep.2.1 276 = .ok (.sipush 2392, 3) := by decide +kernel
theorem d_Md_feastStep_279 : decode m_Md_feastStep.2.1 279 = .ok (.bipush 6, 2) := by decide +kernel
theorem d_Md_feastStep_281 : decode m_Md_feastStep.2.1 281 = .ok (.aload_n 0, 1) := by decide +kernel
theorem d_Md_feastStep_282 : decode m_Md_feastStep.2.1 282 = .ok (.getfield 44, 3) := by decide +kernel
theorem d_Md_feastStep_285 : decode m_Md_feastStep.2.1 285 = .ok (.aload_n 0, 1) := by decide +kernel
theorem d_Md_feastStep_286 : decode m_Md_feastStep.2.1 286 = .ok (.getfield 301, 3) := by decide +kernel
theorem d_Md_feastStep_289 : decode m_Md_feastStep.2.1 289 = .ok (.iaload, 1) := by decide +kernel
theorem d_Md_feastStep_290 : decode m_Md_feastStep.2.1 290 = .ok (.imul, 1) := by decide +kernel
theorem d_Md_feastStep_291 : decode m_Md_feastStep.2.1 291 = .ok (.iadd, 1) := by decide +kernel
theorem d_Md_feastStep_292 : decode m_Md_feastStep.2.1 292 = .ok (.iconst 4, 1) := by decide +kernel
theorem d_Md_feastStep_293 : decode m_Md_feastStep.2.1 293 = .ok (.iadd, 1) := by decide +kernel
theorem d_Md_feastStep_294 : decode m_Md_feastStep.2.1 294 = .ok (.iload_n 2, 1) := by decide +kernel
theorem d_Md_feastStep_295 : decode m_Md_feastStep.2.1 295 = .ok (.iastore, 1) := by decide +kernel
theorem d_Md_feastStep_219 : decode m_Md_feastStep.2.1 219 = .ok (.aload_n 0, 1) := by decide +kernel
theorem d_Md_feastStep_220 : decode m_Md_feastStep.2.1 220 = .ok (.getfield 44, 3) := by decide +kernel
theorem d_Md_feastStep_223 : decode m_Md_feastStep.2.1 223 = .ok (.aload_n 0, 1) := by decide +kernel
theorem d_Md_feastStep_224 : decode m_Md_feastStep.2.1 224 = .ok (.getfield 301, 3) := by decide +kernel
theorem d_Md_feastStep_227 : decode m_Md_feastStep.2.1 227 = .ok (.iload_n 2, 1) := by decide +kernel
theorem d_Md_feastStep_228 : decode m_Md_feastStep.2.1 228 = .ok (.iastore, 1) := by decide +kernel
theorem d_Md_feastStep_229 : decode m_Md_feastStep.2.1 229 = .ok (.aload_n 0, 1) := by decide +kernel
theorem d_Md_feastStep_230 : decode m_Md_feastStep.2.1 230 = .ok (.dup, 1) := by decide +kernel
theorem d_Md_feastStep_231 : decode m_Md_feastStep.2.1 231 = .ok (.getfield 301, 3) := by decide +kernel
theorem d_Md_feastStep_234 : decode m_Md_feastStep.2.1 234 = .ok (.iconst 1, 1) := by decide +kernel
theorem d_Md_feastStep_235 : decode m_Md_feastStep.2.1 235 = .ok (.iadd, 1) := by decide +kernel
theorem d_Md_feastStep_236 : decode m_Md_feastStep.2.1 236 = .ok (.putfield 301, 3) := by decide +kernel
theorem d_Md_feastStep_212 : decode m_Md_feastStep.2.1 212 = .ok (.iconst 0, 1) := by decide +kernel
theorem d_Md_feastStep_213 : decode m_Md_feastStep.2.1 213 = .ok (.ireturn, 1) := by decide +kernel
theorem d_Md_feastStep_171 : decode m_Md_feastStep.2.1 171 = .ok (.aload_n 0, 1) := by decide +kernel
theorem d_Md_feastStep_172 : decode m_Md_feastStep.2.1 172 = .ok (.getfield 7, 3) := by decide +kernel
theorem d_Md_feastStep_175 : decode m_Md_feastStep.2.1 175 = .ok (.iload_n 3, 1) := by decide +kernel
theorem d_Md_feastStep_176 : decode m_Md_feastStep.2.1 176 = .ok (.iload 6, 2) := by decide +kernel
theorem d_Md_feastStep_178 : decode m_Md_feastStep.2.1 178 = .ok (.iadd, 1) := by decide +kernel
theorem d_Md_feastStep_179 : decode m_Md_feastStep.2.1 179 = .ok (.iconst 0, 1) := by decide +kernel
theorem d_Md_feastStep_180 : decode m_Md_feastStep.2.1 180 = .ok (.iastore, 1) := by decide +kernel
theorem d_Md_feastStep_181 : decode m_Md_feastStep.2.1 181 = .ok (.iinc 6 1, 3) := by decide +kernel
theorem d_Md_feastStep_184 : decode m_Md_feastStep.2.1 184 = .ok (.goto (-20), 3) := by decide +kernel
