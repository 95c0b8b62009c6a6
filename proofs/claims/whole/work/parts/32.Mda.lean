theorem d_Md_feastOrder_0 : decode m_Md_feastOrder.2.1 0 = .ok (.iload_n 1, 1) := by decide +kernel
theorem d_Md_feastOrder_1 : decode m_Md_feastOrder.2.1 1 = .ok (.tableswitch 117 3 12 #[55, 117, 117, 117, 117, 61, 72, 117, 111, 100], 55) := by decide +kernel
theorem d_Md_feastOrder_118 : decode m_Md_feastOrder.2.1 118 = .ok (.iconst 1, 1) := by decide +kernel
theorem d_Md_feastOrder_119 : decode m_Md_feastOrder.2.1 119 = .ok (.ireturn, 1) := by decide +kernel
theorem d_Md_feastOrder_56 : decode m_Md_feastOrder.2.1 56 = .ok (.aload_n 0, 1) := by decide +kernel
theorem d_Md_feastOrder_57 : decode m_Md_feastOrder.2.1 57 = .ok (.iload_n 2, 1) := by decide +kernel
theorem d_Md_feastOrder_58 : decode m_Md_feastOrder.2.1 58 = .ok (.invokevirtual 295, 3) := by decide +kernel
abbrev m_Md_passOrder : aw_MI := (⟨"MaypoleGreenModel", "passOrder", "(I)Z"⟩, prog_14_method_55_code, 2, some .boolean)
theorem lk_Md_295 : Cond.methodLink "MaypoleGreenModel" 295 m_Md_passOrder.1 ∈ aw_T := aw_in 1614 (by decide +kernel) rfl
theorem k_Md_passOrder : aw_K m_Md_passOrder 1 := ⟨aw_in 1617 (by decide +kernel) rfl, aw_in 16 (by decide +kernel) rfl, ⟨by decide, by decide, by decide +kernel⟩, by decide, by decide +kernel⟩
theorem in_Md_passOrder : Cond.instanceMethod m_Md_passOrder.1 ∈ aw_T := aw_in 1616 (by decide +kernel) rfl
theorem se_Md_passOrder : Cond.selects m_Md_passOrder.1.cls m_Md_passOrder.1 m_Md_passOrder.1 ∈ aw_T := aw_inP 90 (by decide +kernel) rfl
theorem d_Md_feastOrder_61 : decode m_Md_feastOrder.2.1 61 = .ok (.ireturn, 1) := by decide +kernel
theorem d_Md_feastOrder_62 : decode m_Md_feastOrder.2.1 62 = .ok (.aload_n 0, 1) := by decide +kernel
theorem d_Md_feastOrder_63 : decode m_Md_feastOrder.2.1 63 = .ok (.iload_n 2, 1) := by decide +kernel
theorem d_Md_feastOrder_64 : decode m_Md_feastOrder.2.1 64 = .ok (.iconst 1, 1) := by decide +kernel
theorem d_Md_feastOrder_65 : decode m_Md_feastOrder.2.1 65 = .ok (.iadd, 1) := by decide +kernel
theorem d_Md_feastOrder_66 : decode m_Md_feastOrder.2.1 66 = .ok (.iconst 1, 1) := by decide +kernel
theorem d_Md_feastOrder_67 : decode m_Md_feastOrder.2.1 67 = .ok (.bipush 9, 2) := by decide +kernel
theorem d_Md_feastOrder_69 : decode m_Md_feastOrder.2.1 69 = .ok (.invokevirtual 257, 3) := by decide +kernel
theorem d_Md_feastOrder_72 : decode m_Md_feastOrder.2.1 72 = .ok (.ireturn, 1) := by decide +kernel
theorem d_Md_feastOrder_73 : decode m_Md_feastOrder.2.1 73 = .ok (.aload_n 0, 1) := by decide +kernel
theorem d_Md_feastOrder_74 : decode m_Md_feastOrder.2.1 74 = .ok (.iload_n 2, 1) := by decide +kernel
theorem d_Md_feastOrder_75 : decode m_Md_feastOrder.2.1 75 = .ok (.iconst 1, 1) := by decide +kernel
theorem d_Md_feastOrder_76 : decode m_Md_feastOrder.2.1 76 = .ok (.iadd, 1) := by decide +kernel
theorem d_Md_feastOrder_77 : decode m_Md_feastOrder.2.1 77 = .ok (.invokevirtual 292, 3) := by decide +kernel
abbrev m_Md_dancerTo : aw_MI := (⟨"MaypoleGreenModel", "dancerTo", "(I)Z"⟩, prog_14_method_53_code, 2, some .boolean)
theorem lk_Md_292 : Cond.methodLink "MaypoleGreenModel" 292 m_Md_dancerTo.1 ∈ aw_T := aw_in 1618 (by decide +kernel) rfl
theorem k_Md_dancerTo : aw_K m_Md_dancerTo 1 := ⟨aw_in 1621 (by decide +kernel) rfl, aw_in 16 (by decide +kernel) rfl, ⟨by decide, by decide, by decide +kernel⟩, by decide, by decide +kernel⟩
theorem in_Md_dancerTo : Cond.instanceMethod m_Md_dancerTo.1 ∈ aw_T := aw_in 1620 (by decide +kernel) rfl
theorem se_Md_dancerTo : Cond.selects m_Md_dancerTo.1.cls m_Md_dancerTo.1 m_Md_dancerTo.1 ∈ aw_T := aw_inP 91 (by decide +kernel) rfl
theorem d_Md_feastOrder_80 : decode m_Md_feastOrder.2.1 80 = .ok (.ifCond .eq 19, 3) := by decide +kernel
theorem d_Md_feastOrder_99 : decode m_Md_feastOrder.2.1 99 = .ok (.iconst 0, 1) := by decide +kernel
theorem d_Md_feastOrder_100 : decode m_Md_feastOrder.2.1 100 = .ok (.ireturn, 1) := by decide +kernel
theorem d_Md_feastOrder_83 : decode m_Md_feastOrder.2.1 83 = .ok (.aload_n 0, 1) := by decide +kernel
theorem d_Md_feastOrder_84 : decode m_Md_feastOrder.2.1 84 = .ok (.iload_n 2, 1) := by decide +kernel
theorem d_Md_feastOrder_85 : decode m_Md_feastOrder.2.1 85 = .ok (.iconst 2, 1) := by decide +kernel
theorem d_Md_feastOrder_86 : decode m_Md_feastOrder.2.1 86 = .ok (.iadd, 1) := by decide +kernel
theorem d_Md_feastOrder_87 : decode m_Md_feastOrder.2.1 87 = .ok (.iconst 0, 1) := by decide +kernel
theorem d_Md_feastOrder_88 : decode m_Md_feastOrder.2.1 88 = .ok (.iconst 5, 1) := by decide +kernel
theorem d_Md_feastOrder_89 : decode m_Md_feastOrder.2.1 89 = .ok (.invokevirtual 257, 3) := by decide +kernel
theorem d_Md_feastOrder_92 : decode m_Md_feastOrder.2.1 92 = .ok (.ifCond .eq 7, 3) := by decide +kernel
theorem d_Md_feastOrder_95 : decode m_Md_feastOrder.2.1 95 = .ok (.iconst 1, 1) := by decide +kernel
theorem d_Md_feastOrder_96 : decode m_Md_feastOrder.2.1 96 = .ok (.goto 4, 3) := by decide +kernel
theorem d_Md_feastOrder_112 : decode m_Md_feastOrder.2.1 112 = .ok (.aload_n 0, 1) := by decide +kernel
theorem d_Md_feastOrder_113 : decode m_Md_feastOrder.2.1 113 = .ok (.iload_n 2, 1) := by decide +kernel
theorem d_Md_feastOrder_114 : decode m_Md_feastOrder.2.1 114 = .ok (.invokevirtual 298, 3) := by decide +kernel
abbrev m_Md_test : aw_MI := (⟨"MaypoleGreenModel", "test", "(I)Z"⟩, prog_14_method_54_code, 3, some .boolean)
theorem lk_Md_298 : Cond.methodLink "MaypoleGreenModel" 298 m_Md_test.1 ∈ aw_T := aw_in 1622 (by decide +kernel) rfl
theorem k_Md_test : aw_K m_Md_test 1 := ⟨aw_in 1625 (by decide +kernel) rfl, aw_in 16 (by decide +kernel) rfl, ⟨by decide, by decide, by decide +kernel⟩, by decide, by decide +kernel⟩
theorem in_Md_test : Cond.instanceMethod m_Md_test.1 ∈ aw_T := aw_in 1624 (by decide +kernel) rfl
theorem se_Md_test : Cond.selects m_Md_test.1.cls m_Md_test.1 m_Md_test.1 ∈ aw_T := aw_inP 92 (by decide +kernel) rfl
theorem d_Md_feastOrder_117 : decode m_Md_feastOrder.2.1 117 = .ok (.ireturn, 1) := by decide +kernel
theorem d_Md_feastOrder_101 : decode m_Md_feastOrder.2.1 101 = .ok (.aload_n 0, 1) := by decide +kernel
theorem d_Md_feastOrder_102 : decode m_Md_feastOrder.2.1 102 = .ok (.iload_n 2, 1) := by decide +kernel
theorem d_Md_feastOrder_103 : decode m_Md_feastOrder.2.1 103 = .ok (.iconst 1, 1) := by decide +kernel
theorem d_Md_feastOrder_104 : decode m_Md_feastOrder.2.1 104 = .ok (.iadd, 1) := by decide +kernel
theorem d_Md_feastOrder_105 : decode m_Md_feastOrder.2.1 105 = .ok (.iconst 1, 1) := by decide +kernel
theorem d_Md_feastOrder_106 : decode m_Md_feastOrder.2.1 106 = .ok (.bipush 99, 2) := by decide +kernel
theorem d_Md_feastOrder_108 : decode m_Md_feastOrder.2.1 108 = .ok (.invokevirtual 257, 3) := by decide +kernel
theorem d_Md_feastOrder_111 : decode m_Md_feastOrder.2.1 111 = .ok (.ireturn, 1) := by decide +kernel
theorem d_Md_passOrder_0 : decode m_Md_passOrder.2.1 0 = .ok (.aload_n 0, 1) := by decide +kernel
theorem d_Md_passOrder_1 : decode m_Md_passOrder.2.1 1 = .ok (.iconst 0, 1) := by decide +kernel
theorem d_Md_passOrder_2 : decode m_Md_passOrder.2.1 2 = .ok (.iload_n 1, 1) := by decide +kernel
theorem d_Md_passOrder_3 : decode m_Md_passOrder.2.1 3 = .ok (.iconst 1, 1) := by decide +kernel
theorem d_Md_passOrder_4 : decode m_Md_passOrder.2.1 4 = .ok (.iadd, 1) := by decide +kernel
theorem d_Md_passOrder_5 : decode m_Md_passOrder.2.1 5 = .ok (.invokevirtual 263, 3) := by decide +kernel
theorem d_Md_passOrder_8 : decode m_Md_passOrder.2.1 8 = .ok (.ifCond .eq 13, 3) := by decide +kernel
theorem d_Md_passOrder_21 : decode m_Md_passOrder.2.1 21 = .ok (.iconst 0, 1) := by decide +kernel
theorem d_Md_passOrder_22 : decode m_Md_passOrder.2.1 22 = .ok (.ireturn, 1) := by decide +kernel
theorem d_Md_passOrder_11 : decode m_Md_passOrder.2.1 11 = .ok (.aload_n 0, 1) := by decide +kernel
theorem d_Md_passOrder_12 : decode m_Md_passOrder.2.1 12 = .ok (.iload_n 1, 1) := by decide +kernel
theorem d_Md_passOrder_13 : decode m_Md_passOrder.2.1 13 = .ok (.iconst 2, 1) := by decide +kernel
theorem d_Md_passOrder_14 : decode m_Md_passOrder.2.1 14 = .ok (.iadd, 1) := by decide +kernel
theorem d_Md_passOrder_15 : decode m_Md_passOrder.2.1 15 = .ok (.invokevirtual 266, 3) := by decide +kernel
theorem d_Md_passOrder_18 : decode m_Md_passOrder.2.1 18 = .ok (.ifCond .ne 5, 3) := by decide +kernel
theorem d_Md_passOrder_23 : decode m_Md_passOrder.2.1 23 = .ok (.aload_n 0, 1) := by decide +kernel
theorem d_Md_passOrder_24 : decode m_Md_passOrder.2.1 24 = .ok (.invokevirtual 194, 3) := by decide +kernel
theorem d_Md_passOrder_27 : decode m_Md_passOrder.2.1 27 = .ok (.iconst 1, 1) := by decide +kernel
theorem d_Md_passOrder_28 : decode m_Md_passOrder.2.1 28 = .ok (.ireturn, 1) := by decide +kernel
theorem d_Md_dancerTo_0 : decode m_Md_dancerTo.2.1 0 = .ok (.aload_n 0, 1) := by decide +kernel
theorem d_Md_dancerTo_1 : decode m_Md_dancerTo.2.1 1 = .ok (.ldc 244, 2) := by decide +kernel
theorem d_Md_dancerTo_3 : decode m_Md_dancerTo.2.1 3 = .ok (.invokevirtual 246, 3) := by decide +kernel
theorem d_Md_dancerTo_6 : decode m_Md_dancerTo.2.1 6 = .ok (.ifCond .ne 9, 3) := by decide +kernel
theorem d_Md_dancerTo_15 : decode m_Md_dancerTo.2.1 15 = .ok (.aload_n 0, 1) := by decide +kernel
theorem d_Md_dancerTo_16 : decode m_Md_dancerTo.2.1 16 = .ok (.getfield 7, 3) := by decide +kernel
theorem d_Md_dancerTo_19 : decode m_Md_dancerTo.2.1 19 = .ok (.iload_n 1, 1) := by decide +kernel
theorem d_Md_dancerTo_20 : decode m_Md_dancerTo.2.1 20 = .ok (.aload_n 0, 1) := by decide +kernel
theorem d_Md_dancerTo_21 : decode m_Md_dancerTo.2.1 21 = .ok (.iconst 0, 1) := by decide +kernel
theorem d_Md_dancerTo_22 : decode m_Md_dancerTo.2.1 22 = .ok (.aload_n 0, 1) := by decide +kernel
theorem d_Md_dancerTo_23 : decode m_Md_dancerTo.2.1 23 = .ok (.getfield 7, 3) := by decide +kernel
theorem d_Md_dancerTo_26 : decode m_Md_dancerTo.2.1 26 = .ok (.iconst 0, 1) := by decide +kernel
theorem d_Md_dancerTo_27 : decode m_Md_dancerTo.2.1 27 = .ok (.iaload, 1) := by decide +kernel
theorem d_Md_dancerTo_28 : decode m_Md_dancerTo.2.1 28 = .ok (.invokevirtual 250, 3) := by decide +kernel
theorem d_Md_dancerTo_31 : decode m_Md_dancerTo.2.1 31 = .ok (.iastore, 1) := by decide +kernel
theorem d_Md_dancerTo_32 : decode m_Md_dancerTo.2.1 32 = .ok (.aload_n 0, 1) := by decide +kernel
theorem d_Md_dancerTo_33 : decode m_Md_dancerTo.2.1 33 = .ok (.getfield 7, 3) := by decide +kernel
theorem d_Md_dancerTo_36 : decode m_Md_dancerTo.2.1 36 = .ok (.iload_n 1, 1) := by decide +kernel
theorem d_Md_dancerTo_37 : decode m_Md_dancerTo.2.1 37 = .ok (.iaload, 1) := by decide +kernel
theorem d_Md_dancerTo_38 : decode m_Md_dancerTo.2.1 38 = .ok (.iconst (-1), 1) := by decide +kernel
theorem d_Md_dancerTo_39 : decode m_Md_dancerTo.2.1 39 = .ok (.if_icmp .ne 9, 3) := by decide +kernel
theorem d_Md_dancerTo_48 : decode m_Md_dancerTo.2.1 48 = .ok (.aload_n 0, 1) := by decide +kernel
theorem d_Md_dancerTo_49 : decode m_Md_dancerTo.2.1 49 = .ok (.invokevirtual 194, 3) := by decide +kernel
theorem d_Md_dancerTo_52 : decode m_Md_dancerTo.2.1 52 = .ok (.iconst 1, 1) := by decide +kernel
theorem d_Md_dancerTo_53 : decode m_Md_dancerTo.2.1 53 = .ok (.ireturn, 1) := by decide +kernel
theorem d_Md_dancerTo_42 : decode m_Md_dancerTo.2.1 42 = .ok (.aload_n 0, 1) := by decide +kernel
theorem d_Md_dancerTo_43 : decode m_Md_dancerTo.2.1 43 = .ok (.iconst 3, 1) := by decide +kernel
theorem d_Md_dancerTo_44 : decode m_Md_dancerTo.2.1 44 = .ok (.invokevirtual 200, 3) := by decide +kernel
theorem d_Md_dancerTo_47 : decode m_Md_dancerTo.2.1 47 = .ok (.ireturn, 1) := by decide +kernel
theorem d_Md_dancerTo_9 : decode m_Md_dancerTo.2.1 9 = .ok (.aload_n 0, 1) := by decide +kernel
theorem d_Md_dancerTo_10 : decode m_Md_dancerTo.2.1 10 = .ok (.iconst 2, 1) := by decide +kernel
theorem d_Md_dancerTo_11 : decode m_Md_dancerTo.2.1 11 = .ok (.invokevirtual 200, 3) := by decide +kernel
theorem d_Md_dancerTo_14 : decode m_Md_dancerTo.2.1 14 = .ok (.ireturn, 1) := by decide +kernel
theorem d_Md_test_0 : decode m_Md_test.2.1 0 = .ok (.aload_n 0, 1) := by decide +kernel
theorem d_Md_test_1 : decode m_Md_test.2.1 1 = .ok (.ldc 244, 2) := by decide +kernel
theorem d_Md_test_3 : decode m_Md_test.2.1 3 = .ok (.invokevirtual 203, 3) := by decide +kernel
theorem d_Md_test_6 : decode m_Md_test.2.1 6 = .ok (.istore_n 2, 1) := by decide +kernel
theorem d_Md_test_7 : decode m_Md_test.2.1 7 = .ok (.iload_n 2, 1) := by decide +kernel
theorem d_Md_test_8 : decode m_Md_test.2.1 8 = .ok (.bipush 15, 2) := by decide +kernel
theorem d_Md_test_10 : decode m_Md_test.2.1 10 = .ok (.if_icmp .ge 9, 3) := by decide +kernel
theorem d_Md_test_19 : decode m_Md_test.2.1 19 = .ok (.aload_n 0, 1) := by decide +kernel
theorem d_Md_test_20 : decode m_Md_test.2.1 20 = .ok (.getfield 7, 3) := by decide +kernel
theorem d_Md_test_23 : decode m_Md_test.2.1 23 = .ok (.iload_n 1, 1) := by decide +kernel
theorem d_Md_test_24 : decode m_Md_test.2.1 24 = .ok (.sipush 1100, 3) := by decide +kernel
theorem d_Md_test_27 : decode m_Md_test.2.1 27 = .ok (.iload_n 2, 1) := by decide +kernel
theorem d_Md_test_28 : decode m_Md_test.2.1 28 = .ok (.iadd, 1) := by decide +kernel
theorem d_Md_test_29 : decode m_Md_test.2.1 29 = .ok (.iastore, 1) := by decide +kernel
theorem d_Md_test_30 : decode m_Md_test.2.1 30 = .ok (.aload_n 0, 1) := by decide +kernel
theorem d_Md_test_31 : decode m_Md_test.2.1 31 = .ok (.invokevirtual 194, 3) := by decide +kernel
theorem d_Md_test_34 : decode m_Md_test.2.1 34 = .ok (.iload_n 2, 1) := by decide +kernel
theorem d_Md_test_35 : decode m_Md_test.2.1 35 = .ok (.tableswitch 98 15 17 #[25, 33, 68], 25) := by decide +kernel
theorem d_Md_test_133 : decode m_Md_test.2.1 133 = .ok (.aload_n 0, 1) := by decide +kernel
theorem d_Md_test_134 : decode m_Md_test.2.1 134 = .ok (.bipush 60, 2) := by decide +kernel
theorem d_Md_test_136 : decode m_Md_test.2.1 136 = .ok (.invokevirtual 197, 3) := by decide +kernel
theorem d_Md_test_139 : decode m_Md_test.2.1 139 = .ok (.ifCond .ne 27, 3) := by decide +kernel
theorem d_Md_test_166 : decode m_Md_test.2.1 166 = .ok (.aload_n 0, 1) := by decide +kernel
theorem d_Md_test_167 : decode m_Md_test.2.1 167 = .ok (.getfield 7, 3) := by decide +kernel
theorem d_Md_test_170 : decode m_Md_test.2.1 170 = .ok (.iload_n 1, 1) := by decide +kernel
theorem d_Md_test_171 : decode m_Md_test.2.1 171 = .ok (.iconst 5, 1) := by decide +kernel
theorem d_Md_test_172 : decode m_Md_test.2.1 172 = .ok (.iadd, 1) := by decide +kernel
theorem d_Md_test_173 : decode m_Md_test.2.1 173 = .ok (.aload_n 0, 1) := by decide +kernel
theorem d_Md_test_174 : decode m_Md_test.2.1 174 = .ok (.getfield 160, 3) := by decide +kernel
theorem d_Md_test_177 : decode m_Md_test.2.1 177 = .ok (.iastore, 1) := by decide +kernel
theorem d_Md_test_178 : decode m_Md_test.2.1 178 = .ok (.aload_n 0, 1) := by decide +kernel
theorem d_Md_test_179 : decode m_Md_test.2.1 179 = .ok (.invokevirtual 194, 3) := by decide +kernel
theorem d_Md_test_182 : decode m_Md_test.2.1 182 = .ok (.aload_n 0, 1) := by decide +kernel
theorem d_Md_test_183 : decode m_Md_test.2.1 183 = .ok (.iload_n 1, 1) := by decide +kernel
theorem d_Md_test_184 : decode m_Md_test.2.1 184 = .ok (.iconst 2, 1) := by decide +kernel
theorem d_Md_test_185 : decode m_Md_test.2.1 185 = .ok (.iadd, 1) := by decide +kernel
theorem d_Md_test_186 : decode m_Md_test.2.1 186 = .ok (.iconst 0, 1) := by decide +kernel
theorem d_Md_test_187 : decode m_Md_test.2.1 187 = .ok (.bipush 40, 2) := by decide +kernel
theorem d_Md_test_189 : decode m_Md_test.2.1 189 = .ok (.invokevirtual 257, 3) := by decide +kernel
theorem d_Md_test_192 : decode m_Md_test.2.1 192 = .ok (.ireturn, 1) := by decide +kernel
theorem d_Md_test_142 : decode m_Md_test.2.1 142 = .ok (.aload_n 0, 1) := by decide +kernel
theorem d_Md_test_143 : decode m_Md_test.2.1 143 = .ok (.bipush 62, 2) := by decide +kernel
theorem d_Md_test_145 : decode m_Md_test.2.1 145 = .ok (.invokevirtual 197, 3) := by decide +kernel
theorem d_Md_test_148 : decode m_Md_test.2.1 148 = .ok (.ifCond .ne 18, 3) := by decide +kernel
theorem d_Md_test_151 : decode m_Md_test.2.1 151 = .ok (.aload_n 0, 1) := by decide +kernel
theorem d_Md_test_152 : decode m_Md_test.2.1 152 = .ok (.bipush 61, 2) := by decide +kernel
theorem d_Md_test_154 : decode m_Md_test.2.1 154 = .ok (.invokevirtual 197, 3) := by decide +kernel
theorem d_Md_test_157 : decode m_Md_test.2.1 157 = .ok (.ifCond .ne 9, 3) := by decide +kernel
theorem d_Md_test_160 : decode m_Md_test.2.1 160 = .ok (.aload_n 0, 1) := by decide +kernel
theorem d_Md_test_161 : decode m_Md_test.2.1 161 = .ok (.iconst 2, 1) := by decide +kernel
theorem d_Md_test_162 : decode m_Md_test.2.1 162 = .ok (.invokevirtual 200, 3) := by decide +kernel
theorem d_Md_test_165 : decode m_Md_test.2.1 165 = .ok (.ireturn, 1) := by decide +kernel
theorem d_Md_test_60 : decode m_Md_test.2.1 60 = .ok (.aload_n 0, 1) := by decide +kernel
theorem d_Md_test_61 : decode m_Md_test.2.1 61 = .ok (.iload_n 1, 1) := by decide +kernel
theorem d_Md_test_62 : decode m_Md_test.2.1 62 = .ok (.iconst 1, 1) := by decide +kernel
theorem d_Md_test_63 : decode m_Md_test.2.1 63 = .ok (.iadd, 1) := by decide +kernel
theorem d_Md_test_64 : decode m_Md_test.2.1 64 = .ok (.invokevirtual 292, 3) := by decide +kernel
theorem d_Md_test_67 : decode m_Md_test.2.1 67 = .ok (.ireturn, 1) := by decide +kernel
theorem d_Md_test_68 : decode m_Md_test.2.1 68 = .ok (.aload_n 0, 1) := by decide +kernel
theorem d_Md_test_69 : decode m_Md_test.2.1 69 = .ok (.iload_n 1, 1) := by decide +kernel
theorem d_Md_test_70 : decode m_Md_test.2.1 70 = .ok (.iconst 1, 1) := by decide +kernel
theorem d_Md_test_71 : decode m_Md_test.2.1 71 = .ok (.iadd, 1) := by decide +kernel
theorem d_Md_test_72 : decode m_Md_test.2.1 72 = .ok (.invokevirtual 292, 3) := by decide +kernel
theorem d_Md_test_75 : decode m_Md_test.2.1 75 = .ok (.ifCond .eq 26, 3) := by decide +kernel
theorem d_Md_test_101 : decode m_Md_test.2.1 101 = .ok (.iconst 0, 1) := by decide +kernel
theorem d_Md_test_102 : decode m_Md_test.2.1 102 = .ok (.ireturn, 1) := by decide +kernel
theorem d_Md_test_78 : decode m_Md_test.2.1 78 = .ok (.aload_n 0, 1) := by decide +kernel
theorem d_Md_test_79 : decode m_Md_test.2.1 79 = .ok (.iload_n 1, 1) := by decide +kernel
theorem d_Md_test_80 : decode m_Md_test.2.1 80 = .ok (.iconst 2, 1) := by decide +kernel
theorem d_Md_test_81 : decode m_Md_test.2.1 81 = .ok (.iadd, 1) := by decide +kernel
theorem d_Md_test_82 : decode m_Md_test.2.1 82 = .ok (.iconst 0, 1) := by decide +kernel
theorem d_Md_test_83 : decode m_Md_test.2.1 83 = .ok (.aload_n 0, 1) := by decide +kernel
theorem d_Md_test_84 : decode m_Md_test.2.1 84 = .ok (.getfield 7, 3) := by decide +kernel
theorem d_Md_test_87 : decode m_Md_test.2.1 87 = .ok (.iconst 0, 1) := by decide +kernel
theorem d_Md_test_88 : decode m_Md_test.2.1 88 = .ok (.iaload, 1) := by decide +kernel
theorem d_Md_test_89 : decode m_Md_test.2.1 89 = .ok (.iconst 1, 1) := by decide +kernel
theorem d_Md_test_90 : decode m_Md_test.2.1 90 = .ok (.isub, 1) := by decide +kernel
theorem d_Md_test_91 : decode m_Md_test.2.1 91 = .ok (.invokevirtual 257, 3) := by decide +kernel
theorem d_Md_test_94 : decode m_Md_test.2.1 94 = .ok (.ifCond .eq 7, 3) := by decide +kernel
theorem d_Md_test_97 : decode m_Md_test.2.1 97 = .ok (.iconst 1, 1) := by decide +kernel
theorem d_Md_test_98 : decode m_Md_test.2.1 98 = .ok (.goto 4, 3) := by decide +kernel
theorem d_Md_test_103 : decode m_Md_test.2.1 103 = .ok (.aload_n 0, 1) := by decide +kernel
theorem d_Md_test_104 : decode m_Md_test.2.1 104 = .ok (.iconst 0, 1) := by decide +kernel
theorem d_Md_test_105 : decode m_Md_test.2.1 105 = .ok (.iload_n 1, 1) := by decide +kernel
theorem d_Md_test_106 : decode m_Md_test.2.1 106 = .ok (.iconst 1, 1) := by decide +kernel
theorem d_Md_test_107 : decode m_Md_test.2.1 107 = .ok (.iadd, 1) := by decide +kernel
theorem d_Md_test_108 : decode m_Md_test.2.1 108 = .ok (.invokevirtual 263, 3) := by decide +kernel
theorem d_Md_test_111 : decode m_Md_test.2.1 111 = .ok (.ifCond .eq 20, 3) := by decide +kernel
theorem d_Md_test_131 : decode m_Md_test.2.1 131 = .ok (.iconst 0, 1) := by decide +kernel
theorem d_Md_test_132 : decode m_Md_test.2.1 132 = .ok (.ireturn, 1) := by decide +kernel
theorem d_Md_test_114 : decode m_Md_test.2.1 114 = .ok (.aload_n 0, 1) := by decide +kernel
theorem d_Md_test_115 : decode m_Md_test.2.1 115 = .ok (.iload_n 1, 1) := by decide +kernel
theorem d_Md_test_116 : decode m_Md_test.2.1 116 = .ok (.iconst 2, 1) := by decide +kernel
theorem d_Md_test_117 : decode m_Md_test.2.1 117 = .ok (.iadd, 1) := by decide +kernel
theorem d_Md_test_118 : decode m_Md_test.2.1 118 = .ok (.iconst 0, 1) := by decide +kernel
theorem d_Md_test_119 : decode m_Md_test.2.1 119 = .ok (.bipush 6, 2) := by decide +kernel
theorem d_Md_test_121 : decode m_Md_test.2.1 121 = .ok (.invokevirtual 257, 3) := by decide +kernel
theorem d_Md_test_124 : decode m_Md_test.2.1 124 = .ok (.ifCond .eq 7, 3) := by decide +kernel
theorem d_Md_test_127 : decode m_Md_test.2.1 127 = .ok (.iconst 1, 1) := by decide +kernel
theorem d_Md_test_128 : decode m_Md_test.2.1 128 = .ok (.goto 4, 3) := by decide +kernel
theorem d_Md_test_13 : decode m_Md_test.2.1 13 = .ok (.aload_n 0, 1) := by decide +kernel
theorem d_Md_test_14 : decode m_Md_test.2.1 14 = .ok (.iconst 2, 1) := by decide +kernel
theorem d_Md_test_15 : decode m_Md_test.2.1 15 = .ok (.invokevirtual 200, 3) := by decide +kernel
theorem d_Md_test_18 : decode m_Md_test.2.1 18 = .ok (.ireturn, 1) := by decide +kernel
abbrev m_Md_told : aw_MI := (⟨"MaypoleGreenModel", "told", "(I)I"⟩, prog_14_method_71_code, 2, some .int)
theorem k_Md_told : aw_K m_Md_told 1 := ⟨aw_in 1629 (by decide +kernel) rfl, aw_in 16 (by decide +kernel) rfl, ⟨by decide, by decide, by decide +kernel⟩, by decide, by decide +kernel⟩
theorem d_Md_told_0 : decode m_Md_told.2.1 0 = .ok (.iload_n 1, 1) := by decide +kernel
theorem d_Md_told_1 : decode m_Md_told.2.1 1 = .ok (.tableswitch 156 0 9 #[55, 66, 76, 87, 98, 109, 118, 129, 138, 147], 55) := by decide +kernel
theorem d_Md_told_157 : decode m_Md_told.2.1 157 = .ok (.aload_n 0, 1) := by decide +kernel
theorem d_Md_told_158 : decode m_Md_told.2.1 158 = .ok (.iconst 1, 1) := by decide +kernel
theorem d_Md_told_159 : decode m_Md_told.2.1 159 = .ok (.invokevirtual 118, 3) := by decide +kernel
theorem d_Md_told_162 : decode m_Md_told.2.1 162 = .ok (.ireturn, 1) := by decide +kernel
theorem d_Md_told_56 : decode m_Md_told.2.1 56 = .ok (.aload_n 0, 1) := by decide +kernel
theorem d_Md_told_57 : decode m_Md_told.2.1 57 = .ok (.aload_n 0, 1) := by decide +kernel
theorem d_Md_told_58 : decode m_Md_told.2.1 58 = .ok (.getfield 7, 3) := by decide +kernel
theorem d_Md_told_61 : decode m_Md_told.2.1 61 = .ok (.iconst 0, 1) := by decide +kernel
theorem d_Md_told_62 : decode m_Md_told.2.1 62 = .ok (.iaload, 1) := by decide +kernel
theorem d_Md_told_63 : decode m_Md_told.2.1 63 = .ok (.invokevirtual 122, 3) := by decide +kernel
theorem d_Md_told_66 : decode m_Md_told.2.1 66 = .ok (.ireturn, 1) := by decide +kernel
theorem d_Md_told_67 : decode m_Md_told.2.1 67 = .ok (.aload_n 0, 1) := by decide +kernel
theorem d_Md_told_68 : decode m_Md_told.2.1 68 = .ok (.aload_n 0, 1) := by decide +kernel
theorem d_Md_told_69 : decode m_Md_told.2.1 69 = .ok (.iconst 0, 1) := by decide +kernel
theorem d_Md_told_70 : decode m_Md_told.2.1 70 = .ok (.invokevirtual 260, 3) := by decide +kernel
theorem d_Md_told_73 : decode m_Md_told.2.1 73 = .ok (.invokevirtual 122, 3) := by decide +kernel
theorem d_Md_told_76 : decode m_Md_told.2.1 76 = .ok (.ireturn, 1) := by decide +kernel
theorem d_Md_told_77 : decode m_Md_told.2.1 77 = .ok (.aload_n 0, 1) := by decide +kernel
theorem d_Md_told_78 : decode m_Md_told.2.1 78 = .ok (.aload_n 0, 1) := by decide +kernel
theorem d_Md_told_79 : decode m_Md_told.2.1 79 = .ok (.getfield 7, 3) := by decide +kernel
theorem d_Md_told_82 : decode m_Md_told.2.1 82 = .ok (.iconst 3, 1) := by decide +kernel
theorem d_Md_told_83 : decode m_Md_told.2.1 83 = .ok (.iaload, 1) := by decide +kernel
theorem d_Md_told_84 : decode m_Md_told.2.1 84 = .ok (.invokevirtual 122, 3) := by decide +kernel
theorem d_Md_told_87 : decode m_Md_told.2.1 87 = .ok (.ireturn, 1) := by decide +kernel
theorem d_Md_told_88 : decode m_Md_told.2.1 88 = .ok (.aload_n 0, 1) := by decide +kernel
theorem d_Md_told_89 : decode m_Md_told.2.1 89 = .ok (.aload_n 0, 1) := by decide +kernel
theorem d_Md_told_90 : decode m_Md_told.2.1 90 = .ok (.getfield 7, 3) := by decide +kernel
theorem d_Md_told_93 : decode m_Md_told.2.1 93 = .ok (.iconst 1, 1) := by decide +kernel
theorem d_Md_told_94 : decode m_Md_told.2.1 94 = .ok (.iaload, 1) := by decide +kernel
theorem d_Md_told_95 : decode m_Md_told.2.1 95 = .ok (.invokevirtual 122, 3) := by decide +kernel
theorem d_Md_told_98 : decode m_Md_told.2.1 98 = .ok (.ireturn, 1) := by decide +kernel
theorem d_Md_told_99 : decode m_Md_told.2.1 99 = .ok (.aload_n 0, 1) := by decide +kernel
theorem d_Md_told_100 : decode m_Md_told.2.1 100 = .ok (.aload_n 0, 1) := by decide +kernel
theorem d_Md_told_101 : decode m_Md_told.2.1 101 = .ok (.getfield 7, 3) := by decide +kernel
theorem d_Md_told_104 : decode m_Md_told.2.1 104 = .ok (.iconst 2, 1) := by decide +kernel
theorem d_Md_told_105 : decode m_Md_told.2.1 105 = .ok (.iaload, 1) := by decide +kernel
theorem d_Md_told_106 : decode m_Md_told.2.1 106 = .ok (.invokevirtual 122, 3) := by decide +kernel
theorem d_Md_told_109 : decode m_Md_told.2.1 109 = .ok (.ireturn, 1) := by decide +kernel
theorem d_Md_told_110 : decode m_Md_told.2.1 110 = .ok (.aload_n 0, 1) := by decide +kernel
theorem d_Md_told_111 : decode m_Md_told.2.1 111 = .ok (.aload_n 0, 1) := by decide +kernel
theorem d_Md_told_112 : decode m_Md_told.2.1 112 = .ok (.invokevirtual 325, 3) := by decide +kernel
abbrev m_Md_laysRows : aw_MI := (⟨"MaypoleGreenModel", "laysRows", "()I"⟩, prog_14_method_65_code, 4, some .int)
theorem lk_Md_325 : Cond.methodLink "MaypoleGreenModel" 325 m_Md_laysRows.1 ∈ aw_T := aw_in 1630 (by decide +kernel) rfl
theorem k_Md_laysRows : aw_K m_Md_laysRows 0 := ⟨aw_in 1633 (by decide +kernel) rfl, aw_in 16 (by decide +kernel) rfl, ⟨by decide, by decide, by decide +kernel⟩, by decide, by decide +kernel⟩
theorem in_Md_laysRows : Cond.instanceMethod m_Md_laysRows.1 ∈ aw_T := aw_in 1632 (by decide +kernel) rfl
theorem se_Md_laysRows : Cond.selects m_Md_laysRows.1.cls m_Md_laysRows.1 m_Md_laysRows.1 ∈ aw_T := aw_inP 93 (by decide +kernel) rfl
theorem d_Md_told_115 : decode m_Md_told.2.1 115 = .ok (.invokevirtual 122, 3) := by decide +kernel
theorem d_Md_told_118 : decode m_Md_told.2.1 118 = .ok (.ireturn, 1) := by decide +kernel
theorem d_Md_told_119 : decode m_Md_told.2.1 119 = .ok (.aload_n 0, 1) := by decide +kernel
theorem d_Md_told_120 : decode m_Md_told.2.1 120 = .ok (.aload_n 0, 1) := by decide +kernel
theorem d_Md_told_121 : decode m_Md_told.2.1 121 = .ok (.getfield 7, 3) := by decide +kernel
theorem d_Md_told_124 : decode m_Md_told.2.1 124 = .ok (.iconst 4, 1) := by decide +kernel
theorem d_Md_told_125 : decode m_Md_told.2.1 125 = .ok (.iaload, 1) := by decide +kernel
theorem d_Md_told_126 : decode m_Md_told.2.1 126 = .ok (.invokevirtual 122, 3) := by decide +kernel
theorem d_Md_told_129 : decode m_Md_told.2.1 129 = .ok (.ireturn, 1) := by decide +kernel
theorem d_Md_told_130 : decode m_Md_told.2.1 130 = .ok (.aload_n 0, 1) := by decide +kernel
theorem d_Md_told_131 : decode m_Md_told.2.1 131 = .ok (.aload_n 0, 1) := by decide +kernel
theorem d_Md_told_132 : decode m_Md_told.2.1 132 = .ok (.invokevirtual 328, 3) := by decide +kernel
abbrev m_Md_atHome : aw_MI := (⟨"MaypoleGreenModel", "atHome", "()I"⟩, prog_14_method_69_code, 3, some .int)
theorem lk_Md_328 : Cond.methodLink "MaypoleGreenModel" 328 m_Md_atHome.1 ∈ aw_T := aw_in 1638 (by decide +kernel) rfl
theorem k_Md_atHome : aw_K m_Md_atHome 0 := ⟨aw_in 1641 (by decide +kernel) rfl, aw_in 16 (by decide +kernel) rfl, ⟨by decide, by decide, by decide +kernel⟩, by decide, by decide +kernel⟩
theorem in_Md_atHome : Cond.instanceMethod m_Md_atHome.1 ∈ aw_T := aw_in 1640 (by decide +kernel) rfl
theorem se_Md_atHome : Cond.selects m_Md_atHome.1.cls m_Md_atHome.1 m_Md_atHome.1 ∈ aw_T := aw_inP 95 (by decide +kernel) rfl
theorem d_Md_told_135 : decode m_Md_told.2.1 135 = .ok (.invokevirtual 122, 3) := by decide +kernel
theorem d_Md_told_138 : decode m_Md_told.2.1 138 = .ok (.ireturn, 1) := by decide +kernel
theorem d_Md_told_139 : decode m_Md_told.2.1 139 = .ok (.aload_n 0, 1) := by decide +kernel
theorem d_Md_told_140 : decode m_Md_told.2.1 140 = .ok (.aload_n 0, 1) := by decide +kernel
theorem d_Md_told_141 : decode m_Md_told.2.1 141 = .ok (.invokevirtual 331, 3) := by decide +kernel
abbrev m_Md_freeGaps : aw_MI := (⟨"MaypoleGreenModel", "freeGaps", "()I"⟩, prog_14_method_70_code, 3, some .int)
theorem lk_Md_331 : Cond.methodLink "MaypoleGreenModel" 331 m_Md_freeGaps.1 ∈ aw_T := aw_in 1642 (by decide +kernel) rfl
theorem k_Md_freeGaps : aw_K m_Md_freeGaps 0 := ⟨aw_in 1645 (by decide +kernel) rfl, aw_in 16 (by decide +kernel) rfl, ⟨by decide, by decide, by decide +kernel⟩, by decide, by decide +kernel⟩
theorem in_Md_freeGaps : Cond.instanceMethod m_Md_freeGaps.1 ∈ aw_T := aw_in 1644 (by decide +kernel) rfl
theorem se_Md_freeGaps : Cond.selects m_Md_freeGaps.1.cls m_Md_freeGaps.1 m_Md_freeGaps.1 ∈ aw_T := aw_inP 96 (by decide +kernel) rfl
theorem d_Md_told_144 : decode m_Md_told.2.1 144 = .ok (.invokevirtual 122, 3) := by decide +kernel
theorem d_Md_told_147 : decode m_Md_told.2.1 147 = .ok (.ireturn, 1) := by decide +kernel
theorem d_Md_told_148 : decode m_Md_told.2.1 148 = .ok (.aload_n 0, 1) := by decide +kernel
theorem d_Md_told_149 : decode m_Md_told.2.1 149 = .ok (.aload_n 0, 1) := by decide +kernel
theorem d_Md_told_150 : decode m_Md_told.2.1 150 = .ok (.invokevirtual 334, 3) := by decide +kernel
abbrev m_Md_howManyShow : aw_MI := (⟨"MaypoleGreenModel", "howManyShow", "()I"⟩, prog_14_method_68_code, 3, some .int)
theorem lk_Md_334 : Cond.methodLink "MaypoleGreenModel" 334 m_Md_howManyShow.1 ∈ aw_T := aw_in 1646 (by decide +kernel) rfl
theorem k_Md_howManyShow : aw_K m_Md_howManyShow 0 := ⟨aw_in 1649 (by decide +kernel) rfl, aw_in 16 (by decide +kernel) rfl, ⟨by decide, by decide, by decide +kernel⟩, by decide, by decide +kernel⟩
theorem in_Md_howManyShow : Cond.instanceMethod m_Md_howManyShow.1 ∈ aw_T := aw_in 1648 (by decide +kernel) rfl
theorem se_Md_howManyShow : Cond.selects m_Md_howManyShow.1.cls m_Md_howManyShow.1 m_Md_howManyShow.1 ∈ aw_T := aw_inP 97 (by decide +kernel) rfl
theorem d_Md_told_153 : decode m_Md_told.2.1 153 = .ok (.invokevirtual 122, 3) := by decide +kernel
theorem d_Md_told_156 : decode m_Md_told.2.1 156 = .ok (.ireturn, 1) := by decide +kernel
theorem d_Md_laysRows_0 : decode m_Md_laysRows.2.1 0 = .ok (.iconst 0, 1) := by decide +kernel
theorem d_Md_laysRows_1 : decode m_Md_laysRows.2.1 1 = .ok (.istore_n 1, 1) := by decide +kernel
theorem d_Md_laysRows_2 : decode m_Md_laysRows.2.1 2 = .ok (.iconst 0, 1) := by decide +kernel
theorem d_Md_laysRows_3 : decode m_Md_laysRows.2.1 3 = .ok (.istore_n 2, 1) := by decide +kernel
theorem d_Md_laysRows_4 : decode m_Md_laysRows.2.1 4 = .ok (.iload_n 2, 1) := by decide +kernel
theorem d_Md_laysRows_5 : decode m_Md_laysRows.2.1 5 = .ok (.aload_n 0, 1) := by decide +kernel
theorem d_Md_laysRows_6 : decode m_Md_laysRows.2.1 6 = .ok (.getfield 7, 3) := by decide +kernel
theorem d_Md_laysRows_9 : decode m_Md_laysRows.2.1 9 = .ok (.iconst 3, 1) := by decide +kernel
theorem d_Md_laysRows_10 : decode m_Md_laysRows.2.1 10 = .ok (.iaload, 1) := by decide +kernel
theorem d_Md_laysRows_11 : decode m_Md_laysRows.2.1 11 = .ok (.if_icmp .ge 83, 3) := by decide +kernel
theorem d_Md_laysRows_94 : decode m_Md_laysRows.2.1 94 = .ok (.iload_n 1, 1) := by decide +kernel
theorem d_Md_laysRows_95 : decode m_Md_laysRows.2.1 95 = .ok (.ireturn, 1) := by decide +kernel
theorem d_Md_laysRows_14 : decode m_Md_laysRows.2.1 14 = .ok (.aload_n 0, 1) := by decide +kernel
theorem d_Md_laysRows_15 : decode m_Md_laysRows.2.1 15 = .ok (.getfield 47, 3) := by decide +kernel
theorem f_Md_47 : aw_F "MaypoleGreenModel" 47 11 24 true := ⟨cR11, cT11, 52, fun k => cY11.getD k .int, rfl, ci11, cy11, cn11, rfl, by decide, aw_in 1278 (by decide +kernel) rfl, rfl, rfl, rfl⟩
theorem d_Md_laysRows_18 : decode m_Md_laysRows.2.1 18 = .ok (.iload_n 2, 1) := by decide +kernel
theorem d_Md_laysRows_19 : decode m_Md_laysRows.2.1 19 = .ok (.iconst 1, 1) := by decide +kernel
theorem d_Md_laysRows_20 : decode m_Md_laysRows.2.1 20 = .ok (.iastore, 1) := by decide +kernel
theorem d_Md_laysRows_21 : decode m_Md_laysRows.2.1 21 = .ok (.iconst 0, 1) := by decide +kernel
theorem d_Md_laysRows_22 : decode m_Md_laysRows.2.1 22 = .ok (.istore_n 3, 1) := by decide +kernel
theorem d_Md_laysRows_23 : decode m_Md_laysRows.2.1 23 = .ok (.iload_n 3, 1) := by decide +kernel
theorem d_Md_laysRows_24 : decode m_Md_laysRows.2.1 24 = .ok (.iload_n 2, 1) := by decide +kernel
theorem d_Md_laysRows_25 : decode m_Md_laysRows.2.1 25 = .ok (.if_icmp .ge 52, 3) := by decide +kernel
theorem d_Md_laysRows_77 : decode m_Md_laysRows.2.1 77 = .ok (.iload_n 1, 1) := by decide +kernel
theorem d_Md_laysRows_78 : decode m_Md_laysRows.2.1 78 = .ok (.aload_n 0, 1) := by decide +kernel
theorem d_Md_laysRows_79 : decode m_Md_laysRows.2.1 79 = .ok (.getfield 47, 3) := by decide +kernel
theorem d_Md_laysRows_82 : decode m_Md_laysRows.2.1 82 = .ok (.iload_n 2, 1) := by decide +kernel
theorem d_Md_laysRows_83 : decode m_Md_laysRows.2.1 83 = .ok (.iaload, 1) := by decide +kernel
theorem d_Md_laysRows_84 : decode m_Md_laysRows.2.1 84 = .ok (.invokestatic 214, 3) := by decide +kernel
theorem d_Md_laysRows_87 : decode m_Md_laysRows.2.1 87 = .ok (.istore_n 1, 1) := by decide +kernel
theorem d_Md_laysRows_88 : decode m_Md_laysRows.2.1 88 = .ok (.iinc 2 1, 3) := by decide +kernel
theorem d_Md_laysRows_91 : decode m_Md_laysRows.2.1 91 = .ok (.goto (-87), 3) := by decide +kernel
theorem d_Md_laysRows_28 : decode m_Md_laysRows.2.1 28 = .ok (.aload_n 0, 1) := by decide +kernel
theorem d_Md_laysRows_29 : decode m_Md_laysRows.2.1 29 = .ok (.iconst 0, 1) := by decide +kernel
theorem d_Md_laysRows_30 : decode m_Md_laysRows.2.1 30 = .ok (.aload_n 0, 1) := by decide +kernel
theorem d_Md_laysRows_31 : decode m_Md_laysRows.2.1 31 = .ok (.iload_n 3, 1) := by decide +kernel
theorem d_Md_laysRows_32 : decode m_Md_laysRows.2.1 32 = .ok (.iconst 0, 1) := by decide +kernel
theorem d_Md_laysRows_33 : decode m_Md_laysRows.2.1 33 = .ok (.invokevirtual 316, 3) := by decide +kernel
abbrev m_Md_passOf : aw_MI := (⟨"MaypoleGreenModel", "passOf", "(II)I"⟩, prog_14_method_64_code, 3, some .int)
theorem lk_Md_316 : Cond.methodLink "MaypoleGreenModel" 316 m_Md_passOf.1 ∈ aw_T := aw_in 1634 (by decide +kernel) rfl
theorem k_Md_passOf : aw_K m_Md_passOf 2 := ⟨aw_in 1637 (by decide +kernel) rfl, aw_in 16 (by decide +kernel) rfl, ⟨by decide, by decide, by decide +kernel⟩, by decide, by decide +kernel⟩
theorem in_Md_passOf : Cond.instanceMethod m_Md_passOf.1 ∈ aw_T := aw_in 1636 (by decide +kernel) rfl
theorem se_Md_passOf : Cond.selects m_Md_passOf.1.cls m_Md_passOf.1 m_Md_passOf.1 ∈ aw_T := aw_inP 94 (by decide +kernel) rfl
theorem d_Md_laysRows_36 : decode m_Md_laysRows.2.1 36 = .ok (.aload_n 0, 1) := by decide +kernel
theorem d_Md_laysRows_37 : decode m_Md_laysRows.2.1 37 = .ok (.iload_n 2, 1) := by decide +kernel
theorem d_Md_laysRows_38 : decode m_Md_laysRows.2.1 38 = .ok (.iconst 0, 1) := by decide +kernel
theorem d_Md_laysRows_39 : decode m_Md_laysRows.2.1 39 = .ok (.invokevirtual 316, 3) := by decide +kernel
theorem d_Md_laysRows_42 : decode m_Md_laysRows.2.1 42 = .ok (.invokevirtual 217, 3) := by decide +kernel
theorem d_Md_laysRows_45 : decode m_Md_laysRows.2.1 45 = .ok (.ifCond .eq 26, 3) := by decide +kernel
theorem d_Md_laysRows_71 : decode m_Md_laysRows.2.1 71 = .ok (.iinc 3 1, 3) := by decide +kernel
theorem d_Md_laysRows_74 : decode m_Md_laysRows.2.1 74 = .ok (.goto (-51), 3) := by decide +kernel
theorem d_Md_laysRows_48 : decode m_Md_laysRows.2.1 48 = .ok (.aload_n 0, 1) := by decide +kernel
theorem d_Md_laysRows_49 : decode m_Md_laysRows.2.1 49 = .ok (.getfield 47, 3) := by decide +kernel
theorem d_Md_laysRows_52 : decode m_Md_laysRows.2.1 52 = .ok (.iload_n 2, 1) := by decide +kernel
theorem d_Md_laysRows_53 : decode m_Md_laysRows.2.1 53 = .ok (.aload_n 0, 1) := by decide +kernel
theorem d_Md_laysRows_54 : decode m_Md_laysRows.2.1 54 = .ok (.getfield 47, 3) := by decide +kernel
theorem d_Md_laysRows_57 : decode m_Md_laysRows.2.1 57 = .ok (.iload_n 2, 1) := by decide +kernel
theorem d_Md_laysRows_58 : decode m_Md_laysRows.2.1 58 = .ok (.iaload, 1) := by decide +kernel
theorem d_Md_laysRows_59 : decode m_Md_laysRows.2.1 59 = .ok (.aload_n 0, 1) := by decide +kernel
theorem d_Md_laysRows_60 : decode m_Md_laysRows.2.1 60 = .ok (.getfield 47, 3) := by decide +kernel
theorem d_Md_laysRows_63 : decode m_Md_laysRows.2.1 63 = .ok (.iload_n 3, 1) := by decide +kernel
theorem d_Md_laysRows_64 : decode m_Md_laysRows.2.1 64 = .ok (.iaload, 1) := by decide +kernel
theorem d_Md_laysRows_65 : decode m_Md_laysRows.2.1 65 = .ok (.iconst 1, 1) := by decide +kernel
theorem d_Md_laysRows_66 : decode m_Md_laysRows.2.1 66 = .ok (.iadd, 1) := by decide +kernel
theorem d_Md_laysRows_67 : decode m_Md_laysRows.2.1 67 = .ok (.invokestatic 214, 3) := by decide +kernel
theorem d_Md_laysRows_70 : decode m_Md_laysRows.2.1 70 = .ok (.iastore, 1) := by decide +kernel
theorem d_Md_passOf_0 : decode m_Md_passOf.2.1 0 = .ok (.aload_n 0, 1) := by decide +kernel
theorem d_Md_passOf_1 : decode m_Md_passOf.2.1 1 = .ok (.getfield 7, 3) := by decide +kernel
theorem d_Md_passOf_4 : decode m_Md_passOf.2.1 4 = .ok (.iload_n 1, 1) := by decide +kernel
theorem d_Md_passOf_5 : decode m_Md_passOf.2.1 5 = .ok (.invokestatic 211, 3) := by decide +kernel
theorem d_Md_passOf_8 : decode m_Md_passOf.2.1 8 = .ok (.iload_n 2, 1) := by decide +kernel
theorem d_Md_passOf_9 : decode m_Md_passOf.2.1 9 = .ok (.iadd, 1) := by decide +kernel
theorem d_Md_passOf_10 : decode m_Md_passOf.2.1 10 = .ok (.iaload, 1) := by decide +kernel
theorem d_Md_passOf_11 : decode m_Md_passOf.2.1 11 = .ok (.ireturn, 1) := by decide +kernel
theorem d_Md_atHome_0 : decode m_Md_atHome.2.1 0 = .ok (.iconst 0, 1) := by decide +kernel
theorem d_Md_atHome_1 : decode m_Md_atHome.2.1 1 = .ok (.istore_n 1, 1) := by decide +kernel
theorem d_Md_atHome_2 : decode m_Md_atHome.2.1 2 = .ok (.iconst 0, 1) := by decide +kernel
theorem d_Md_atHome_3 : decode m_Md_atHome.2.1 3 = .ok (.istore_n 2, 1) := by decide +kernel
theorem d_Md_atHome_4 : decode m_Md_atHome.2.1 4 = .ok (.iload_n 2, 1) := by decide +kernel
theorem d_Md_atHome_5 : decode m_Md_atHome.2.1 5 = .ok (.aload_n 0, 1) := by decide +kernel
theorem d_Md_atHome_6 : decode m_Md_atHome.2.1 6 = .ok (.getfield 7, 3) := by decide +kernel
theorem d_Md_atHome_9 : decode m_Md_atHome.2.1 9 = .ok (.iconst 0, 1) := by decide +kernel
theorem d_Md_atHome_10 : decode m_Md_atHome.2.1 10 = .ok (.iaload, 1) := by decide +kernel
theorem d_Md_atHome_11 : decode m_Md_atHome.2.1 11 = .ok (.if_icmp .ge 32, 3) := by decide +kernel
theorem d_Md_atHome_43 : decode m_Md_atHome.2.1 43 = .ok (.iload_n 1, 1) := by decide +kernel
theorem d_Md_atHome_44 : decode m_Md_atHome.2.1 44 = .ok (.ireturn, 1) := by decide +kernel
theorem d_Md_atHome_14 : decode m_Md_atHome.2.1 14 = .ok (.iload_n 1, 1) := by decide +kernel
theorem d_Md_atHome_15 : decode m_Md_atHome.2.1 15 = .ok (.aload_n 0, 1) := by decide +kernel
theorem d_Md_atHome_16 : decode m_Md_atHome.2.1 16 = .ok (.getfield 7, 3) := by decide +kernel
theorem d_Md_atHome_19 : decode m_Md_atHome.2.1 19 = .ok (.bipush 17, 2) := by decide +kernel
theorem d_Md_atHome_21 : decode m_Md_atHome.2.1 21 = .ok (.iload_n 2, 1) := by decide +kernel
theorem d_Md_atHome_22 : decode m_Md_atHome.2.1 22 = .ok (.iadd, 1) := by decide +kernel
theorem d_Md_atHome_23 : decode m_Md_atHome.2.1 23 = .ok (.iaload, 1) := by decide +kernel
theorem d_Md_atHome_24 : decode m_Md_atHome.2.1 24 = .ok (.iload_n 2, 1) := by decide +kernel
theorem d_Md_atHome_25 : decode m_Md_atHome.2.1 25 = .ok (.if_icmp .ne 9, 3) := by decide +kernel
theorem d_Md_atHome_34 : decode m_Md_atHome.2.1 34 = .ok (.iconst 0, 1) := by decide +kernel
theorem d_Md_atHome_35 : decode m_Md_atHome.2.1 35 = .ok (.ior, 1) := by decide +kernel
theorem d_Md_atHome_36 : decode m_Md_atHome.2.1 36 = .ok (.istore_n 1, 1) := by decide +kernel
theorem d_Md_atHome_37 : decode m_Md_atHome.2.1 37 = .ok (.iinc 2 1, 3) := by decide +kernel
theorem d_Md_atHome_40 : decode m_Md_atHome.2.1 40 = .ok (.goto (-36), 3) := by decide +kernel
theorem d_Md_atHome_28 : decode m_Md_atHome.2.1 28 = .ok (.iconst 1, 1) := by decide +kernel
theorem d_Md_atHome_29 : decode m_Md_atHome.2.1 29 = .ok (.iload_n 2, 1) := by decide +kernel
theorem d_Md_atHome_30 : decode m_Md_atHome.2.1 30 = .ok (.ishl, 1) := by decide +kernel
theorem d_Md_atHome_31 : decode m_Md_atHome.2.1 31 = .ok (.goto 4, 3) := by decide +kernel
theorem d_Md_freeGaps_0 : decode m_Md_freeGaps.2.1 0 = .ok (.iconst 0, 1) := by decide +kernel
theorem d_Md_freeGaps_1 : decode m_Md_freeGaps.2.1 1 = .ok (.istore_n 1, 1) := by decide +kernel
theorem d_Md_freeGaps_2 : decode m_Md_freeGaps.2.1 2 = .ok (.iconst 0, 1) := by decide +kernel
theorem d_Md_freeGaps_3 : decode m_Md_freeGaps.2.1 3 = .ok (.istore_n 2, 1) := by decide +kernel
theorem d_Md_freeGaps_4 : decode m_Md_freeGaps.2.1 4 = .ok (.iload_n 2, 1) := by decide +kernel
theorem d_Md_freeGaps_5 : decode m_Md_freeGaps.2.1 5 = .ok (.aload_n 0, 1) := by decide +kernel
theorem d_Md_freeGaps_6 : decode m_Md_freeGaps.2.1 6 = .ok (.getfield 7, 3) := by decide +kernel
theorem d_Md_freeGaps_9 : decode m_Md_freeGaps.2.1 9 = .ok (.iconst 3, 1) := by decide +kernel
theorem d_Md_freeGaps_10 : decode m_Md_freeGaps.2.1 10 = .ok (.iaload, 1) := by decide +kernel
theorem d_Md_freeGaps_11 : decode m_Md_freeGaps.2.1 11 = .ok (.if_icmp .ge 33, 3) := by decide +kernel
theorem d_Md_freeGaps_44 : decode m_Md_freeGaps.2.1 44 = .ok (.iload_n 1, 1) := by decide +kernel
theorem d_Md_freeGaps_45 : decode m_Md_freeGaps.2.1 45 = .ok (.ireturn, 1) := by decide +kernel
theorem d_Md_freeGaps_14 : decode m_Md_freeGaps.2.1 14 = .ok (.iload_n 1, 1) := by decide +kernel
theorem d_Md_freeGaps_15 : decode m_Md_freeGaps.2.1 15 = .ok (.aload_n 0, 1) := by decide +kernel
theorem d_Md_freeGaps_16 : decode m_Md_freeGaps.2.1 16 = .ok (.iconst 0, 1) := by decide +kernel
theorem d_Md_freeGaps_17 : decode m_Md_freeGaps.2.1 17 = .ok (.iload_n 2, 1) := by decide +kernel
theorem d_Md_freeGaps_18 : decode m_Md_freeGaps.2.1 18 = .ok (.invokevirtual 224, 3) := by decide +kernel
theorem d_Md_freeGaps_21 : decode m_Md_freeGaps.2.1 21 = .ok (.ifCond .eq 14, 3) := by decide +kernel
theorem d_Md_freeGaps_35 : decode m_Md_freeGaps.2.1 35 = .ok (.iconst 0, 1) := by decide +kernel
theorem d_Md_freeGaps_36 : decode m_Md_freeGaps.2.1 36 = .ok (.ior, 1) := by decide +kernel
theorem d_Md_freeGaps_37 : decode m_Md_freeGaps.2.1 37 = .ok (.istore_n 1, 1) := by decide +kernel
theorem d_Md_freeGaps_38 : decode m_Md_freeGaps.2.1 38 = .ok (.iinc 2 1, 3) := by decide +kernel
theorem d_Md_freeGaps_41 : decode m_Md_freeGaps.2.1 41 = .ok (.goto (-37), 3) := by decide +kernel
theorem d_Md_freeGaps_24 : decode m_Md_freeGaps.2.1 24 = .ok (.iconst 1, 1) := by decide +kernel
theorem d_Md_freeGaps_25 : decode m_Md_freeGaps.2.1 25 = .ok (.aload_n 0, 1) := by decide +kernel
theorem d_Md_freeGaps_26 : decode m_Md_freeGaps.2.1 26 = .ok (.iload_n 2, 1) := by decide +kernel
theorem d_Md_freeGaps_27 : decode m_Md_freeGaps.2.1 27 = .ok (.iconst 0, 1) := by decide +kernel
theorem d_Md_freeGaps_28 : decode m_Md_freeGaps.2.1 28 = .ok (.invokevirtual 316, 3) := by decide +kernel
theorem d_Md_freeGaps_31 : decode m_Md_freeGaps.2.1 31 = .ok (.ishl, 1) := by decide +kernel
theorem d_Md_freeGaps_32 : decode m_Md_freeGaps.2.1 32 = .ok (.goto 4, 3) := by decide +kernel
theorem d_Md_howManyShow_0 : decode m_Md_howManyShow.2.1 0 = .ok (.iconst 0, 1) := by decide +kernel
theorem d_Md_howManyShow_1 : decode m_Md_howManyShow.2.1 1 = .ok (.istore_n 1, 1) := by decide +kernel
theorem d_Md_howManyShow_2 : decode m_Md_howManyShow.2.1 2 = .ok (.iconst 0, 1) := by decide +kernel
theorem d_Md_howManyShow_3 : decode m_Md_howManyShow.2.1 3 = .ok (.istore_n 2, 1) := by decide +kernel
theorem d_Md_howManyShow_4 : decode m_Md_howManyShow.2.1 4 = .ok (.iload_n 2, 1) := by decide +kernel
theorem d_Md_howManyShow_5 : decode m_Md_howManyShow.2.1 5 = .ok (.aload_n 0, 1) := by decide +kernel
theorem d_Md_howManyShow_6 : decode m_Md_howManyShow.2.1 6 = .ok (.iconst 0, 1) := by decide +kernel
theorem d_Md_howManyShow_7 : decode m_Md_howManyShow.2.1 7 = .ok (.invokevirtual 260, 3) := by decide +kernel
theorem d_Md_howManyShow_10 : decode m_Md_howManyShow.2.1 10 = .ok (.if_icmp .ge 19, 3) := by decide +kernel
theorem d_Md_howManyShow_29 : decode m_Md_howManyShow.2.1 29 = .ok (.iload_n 1, 1) := by decide +kernel
theorem d_Md_howManyShow_30 : decode m_Md_howManyShow.2.1 30 = .ok (.bipush 63, 2) := by decide +kernel
theorem d_Md_howManyShow_32 : decode m_Md_howManyShow.2.1 32 = .ok (.iand, 1) := by decide +kernel
theorem d_Md_howManyShow_33 : decode m_Md_howManyShow.2.1 33 = .ok (.invokestatic 322, 3) := by decide +kernel
abbrev m_Md_bits : aw_MI := (⟨"MaypoleGreenModel", "bits", "(I)I"⟩, prog_14_method_62_code, 3, some .int)
theorem lk_Md_322 : Cond.methodLink "MaypoleGreenModel" 322 m_Md_bits.1 ∈ aw_T := aw_in 1654 (by decide +kernel) rfl
theorem k_Md_bits : aw_K m_Md_bits 1 := ⟨aw_in 1656 (by decide +kernel) rfl, aw_in 16 (by decide +kernel) rfl, ⟨by decide, by decide, by decide +kernel⟩, by decide, by decide +kernel⟩
theorem st_Md_bits : Cond.static m_Md_bits.1 ∈ aw_T := aw_in 1655 (by decide +kernel) rfl
theorem d_Md_howManyShow_36 : decode m_Md_howManyShow.2.1 36 = .ok (.ireturn, 1) := by decide +kernel
theorem d_Md_howManyShow_13 : decode m_Md_howManyShow.2.1 13 = .ok (.iload_n 1, 1) := by decide +kernel
theorem d_Md_howManyShow_14 : decode m_Md_howManyShow.2.1 14 = .ok (.iconst 1, 1) := by decide +kernel
theorem d_Md_howManyShow_15 : decode m_Md_howManyShow.2.1 15 = .ok (.aload_n 0, 1) := by decide +kernel
theorem d_Md_howManyShow_16 : decode m_Md_howManyShow.2.1 16 = .ok (.iload_n 2, 1) := by decide +kernel
theorem d_Md_howManyShow_17 : decode m_Md_howManyShow.2.1 17 = .ok (.invokevirtual 319, 3) := by decide +kernel
abbrev m_Md_showsOf : aw_MI := (⟨"MaypoleGreenModel", "showsOf", "(I)I"⟩, prog_14_method_67_code, 3, some .int)
theorem lk_Md_319 : Cond.methodLink "MaypoleGreenModel" 319 m_Md_showsOf.1 ∈ aw_T := aw_in 1650 (by decide +kernel) rfl
theorem k_Md_showsOf : aw_K m_Md_showsOf 1 := ⟨aw_in 1653 (by decide +kernel) rfl, aw_in 16 (by decide +kernel) rfl, ⟨by decide, by decide, by decide +kernel⟩, by decide, by decide +kernel⟩
theorem in_Md_showsOf : Cond.instanceMethod m_Md_showsOf.1 ∈ aw_T := aw_in 1652 (by decide +kernel) rfl
theorem se_Md_showsOf : Cond.selects m_Md_showsOf.1.cls m_Md_showsOf.1 m_Md_showsOf.1 ∈ aw_T := aw_inP 98 (by decide +kernel) rfl
theorem d_Md_howManyShow_20 : decode m_Md_howManyShow.2.1 20 = .ok (.ishl, 1) := by decide +kernel
theorem d_Md_howManyShow_21 : decode m_Md_howManyShow.2.1 21 = .ok (.ior, 1) := by decide +kernel
theorem d_Md_howManyShow_22 : decode m_Md_howManyShow.2.1 22 = .ok (.istore_n 1, 1) := by decide +kernel
theorem d_Md_howManyShow_23 : decode m_Md_howManyShow.2.1 23 = .ok (.iinc 2 1, 3) := by decide +kernel
theorem d_Md_howManyShow_26 : decode m_Md_howManyShow.2.1 26 = .ok (.goto (-22), 3) := by decide +kernel
theorem d_Md_showsOf_0 : decode m_Md_showsOf.2.1 0 = .ok (.aload_n 0, 1) := by decide +kernel
theorem d_Md_showsOf_1 : decode m_Md_showsOf.2.1 1 = .ok (.iconst 0, 1) := by decide +kernel
theorem d_Md_showsOf_2 : decode m_Md_showsOf.2.1 2 = .ok (.iload_n 1, 1) := by decide +kernel
theorem d_Md_showsOf_3 : decode m_Md_showsOf.2.1 3 = .ok (.invokevirtual 221, 3) := by decide +kernel
theorem d_Md_showsOf_6 : decode m_Md_showsOf.2.1 6 = .ok (.istore_n 2, 1) := by decide +kernel
theorem d_Md_showsOf_7 : decode m_Md_showsOf.2.1 7 = .ok (.iload_n 2, 1) := by decide +kernel
theorem d_Md_showsOf_8 : decode m_Md_showsOf.2.1 8 = .ok (.iconst (-1), 1) := by decide +kernel
theorem d_Md_showsOf_9 : decode m_Md_showsOf.2.1 9 = .ok (.if_icmp .ne 8, 3) := by decide +kernel
theorem d_Md_showsOf_17 : decode m_Md_showsOf.2.1 17 = .ok (.aload_n 0, 1) := by decide +kernel
theorem d_Md_showsOf_18 : decode m_Md_showsOf.2.1 18 = .ok (.getfield 7, 3) := by decide +kernel
theorem d_Md_showsOf_21 : decode m_Md_showsOf.2.1 21 = .ok (.bipush 10, 2) := by decide +kernel
theorem d_Md_showsOf_23 : decode m_Md_showsOf.2.1 23 = .ok (.aload_n 0, 1) := by decide +kernel
theorem d_Md_showsOf_24 : decode m_Md_showsOf.2.1 24 = .ok (.iload_n 2, 1) := by decide +kernel
theorem d_Md_showsOf_25 : decode m_Md_showsOf.2.1 25 = .ok (.iconst 2, 1) := by decide +kernel
theorem d_Md_showsOf_26 : decode m_Md_showsOf.2.1 26 = .ok (.invokevirtual 316, 3) := by decide +kernel
theorem d_Md_showsOf_29 : decode m_Md_showsOf.2.1 29 = .ok (.iadd, 1) := by decide +kernel
theorem d_Md_showsOf_30 : decode m_Md_showsOf.2.1 30 = .ok (.iaload, 1) := by decide +kernel
theorem d_Md_showsOf_31 : decode m_Md_showsOf.2.1 31 = .ok (.ireturn, 1) := by decide +kernel
theorem d_Md_showsOf_12 : decode m_Md_showsOf.2.1 12 = .ok (.bipush 6, 2) := by decide +kernel
theorem d_Md_showsOf_14 : decode m_Md_showsOf.2.1 14 = .ok (.goto 17, 3) := by decide +kernel
theorem d_Md_bits_0 : decode m_Md_bits.2.1 0 = .ok (.iconst 0, 1) := by decide +kernel
theorem d_Md_bits_1 : decode m_Md_bits.2.1 1 = .ok (.istore_n 1, 1) := by decide +kernel
theorem d_Md_bits_2 : decode m_Md_bits.2.1 2 = .ok (.iload_n 0, 1) := by decide +kernel
theorem d_Md_bits_3 : decode m_Md_bits.2.1 3 = .ok (.istore_n 2, 1) := by decide +kernel
theorem d_Md_bits_4 : decode m_Md_bits.2.1 4 = .ok (.iload_n 2, 1) := by decide +kernel
theorem d_Md_bits_5 : decode m_Md_bits.2.1 5 = .ok (.ifCond .eq 15, 3) := by decide +kernel
theorem d_Md_bits_20 : decode m_Md_bits.2.1 20 = .ok (.iload_n 1, 1) := by decide +kernel
theorem d_Md_bits_21 : decode m_Md_bits.2.1 21 = .ok (.ireturn, 1) := by decide +kernel
theorem d_Md_bits_8 : decode m_Md_bits.2.1 8 = .ok (.iinc 1 1, 3) := by decide +kernel
theorem d_Md_bits_11 : decode m_Md_bits.2.1 11 = .ok (.iload_n 2, 1) := by decide +kernel
theorem d_Md_bits_12 : decode m_Md_bits.2.1 12 = .ok (.iload_n 2, 1) := by decide +kernel
theorem d_Md_bits_13 : decode m_Md_bits.2.1 13 = .ok (.iconst 1, 1) := by decide +kernel
theorem d_Md_bits_14 : decode m_Md_bits.2.1 14 = .ok (.isub, 1) := by decide +kernel
theorem d_Md_bits_15 : decode m_Md_bits.2.1 15 = .ok (.iand, 1) := by decide +kernel
theorem d_Md_bits_16 : decode m_Md_bits.2.1 16 = .ok (.istore_n 2, 1) := by decide +kernel
theorem d_Md_bits_17 : decode m_Md_bits.2.1 17 = .ok (.goto (-13), 3) := by decide +kernel
abbrev m_Md_dancer : aw_MI := (⟨"MaypoleGreenModel", "dancer", "(II)I"⟩, prog_14_method_73_code, 3, some .int)
theorem k_Md_dancer : aw_K m_Md_dancer 2 := ⟨aw_in 1660 (by decide +kernel) rfl, aw_in 16 (by decide +kernel) rfl, ⟨by decide, by decide, by decide +kernel⟩, by decide, by decide +kernel⟩
theorem d_Md_dancer_0 : decode m_Md_dancer.2.1 0 = .ok (.aload_n 0, 1) := by decide +kernel
theorem d_Md_dancer_1 : decode m_Md_dancer.2.1 1 = .ok (.iload_n 1, 1) := by decide +kernel
theorem d_Md_dancer_2 : decode m_Md_dancer.2.1 2 = .ok (.invokevirtual 313, 3) := by decide +kernel
abbrev m_Md_isDancer : aw_MI := (⟨"MaypoleGreenModel", "isDancer", "(I)Z"⟩, prog_14_method_59_code, 2, some .boolean)
theorem lk_Md_313 : Cond.methodLink "MaypoleGreenModel" 313 m_Md_isDancer.1 ∈ aw_T := aw_in 1661 (by decide +kernel) rfl
theorem k_Md_isDancer : aw_K m_Md_isDancer 1 := ⟨aw_in 1664 (by decide +kernel) rfl, aw_in 16 (by decide +kernel) rfl, ⟨by decide, by decide, by decide +kernel⟩, by decide, by decide +kernel⟩
theorem in_Md_isDancer : Cond.instanceMethod m_Md_isDancer.1 ∈ aw_T := aw_in 1663 (by decide +kernel) rfl
theorem se_Md_isDancer : Cond.selects m_Md_isDancer.1.cls m_Md_isDancer.1 m_Md_isDancer.1 ∈ aw_T := aw_inP 99 (by decide +kernel) rfl
theorem d_Md_dancer_5 : decode m_Md_dancer.2.1 5 = .ok (.ifCond .ne 9, 3) := by decide +kernel
theorem d_Md_dancer_14 : decode m_Md_dancer.2.1 14 = .ok (.iload_n 2, 1) := by decide +kernel
theorem d_Md_dancer_15 : decode m_Md_dancer.2.1 15 = .ok (.tableswitch 90 0 4 #[33, 43, 57, 68, 79], 33) := by decide +kernel
theorem d_Md_dancer_105 : decode m_Md_dancer.2.1 105 = .ok (.aload_n 0, 1) := by decide +kernel
theorem d_Md_dancer_106 : decode m_Md_dancer.2.1 106 = .ok (.iconst 1, 1) := by decide +kernel
theorem d_Md_dancer_107 : decode m_Md_dancer.2.1 107 = .ok (.invokevirtual 118, 3) := by decide +kernel
theorem d_Md_dancer_110 : decode m_Md_dancer.2.1 110 = .ok (.ireturn, 1) := by decide +kernel
theorem d_Md_dancer_48 : decode m_Md_dancer.2.1 48 = .ok (.aload_n 0, 1) := by decide +kernel
theorem d_Md_dancer_49 : decode m_Md_dancer.2.1 49 = .ok (.aload_n 0, 1) := by decide +kernel
theorem d_Md_dancer_50 : decode m_Md_dancer.2.1 50 = .ok (.iload_n 1, 1) := by decide +kernel
theorem d_Md_dancer_51 : decode m_Md_dancer.2.1 51 = .ok (.invokevirtual 337, 3) := by decide +kernel
abbrev m_Md_placeOf : aw_MI := (⟨"MaypoleGreenModel", "placeOf", "(I)I"⟩, prog_14_method_63_code, 3, some .int)
theorem lk_Md_337 : Cond.methodLink "MaypoleGreenModel" 337 m_Md_placeOf.1 ∈ aw_T := aw_in 1665 (by decide +kernel) rfl
theorem k_Md_placeOf : aw_K m_Md_placeOf 1 := ⟨aw_in 1668 (by decide +kernel) rfl, aw_in 16 (by decide +kernel) rfl, ⟨by decide, by decide, by decide +kernel⟩, by decide, by decide +kernel⟩
theorem in_Md_placeOf : Cond.instanceMethod m_Md_placeOf.1 ∈ aw_T := aw_in 1667 (by decide +kernel) rfl
theorem se_Md_placeOf : Cond.selects m_Md_placeOf.1.cls m_Md_placeOf.1 m_Md_placeOf.1 ∈ aw_T := aw_inP 100 (by decide +kernel) rfl
theorem d_Md_dancer_54 : decode m_Md_dancer.2.1 54 = .ok (.invokevirtual 122, 3) := by decide +kernel
theorem d_Md_dancer_57 : decode m_Md_dancer.2.1 57 = .ok (.ireturn, 1) := by decide +kernel
theorem d_Md_dancer_58 : decode m_Md_dancer.2.1 58 = .ok (.aload_n 0, 1) := by decide +kernel
theorem d_Md_dancer_59 : decode m_Md_dancer.2.1 59 = .ok (.aload_n 0, 1) := by decide +kernel
theorem d_Md_dancer_60 : decode m_Md_dancer.2.1 60 = .ok (.getfield 7, 3) := by decide +kernel
theorem d_Md_dancer_63 : decode m_Md_dancer.2.1 63 = .ok (.bipush 10, 2) := by decide +kernel
theorem d_Md_dancer_65 : decode m_Md_dancer.2.1 65 = .ok (.iload_n 1, 1) := by decide +kernel
theorem d_Md_dancer_66 : decode m_Md_dancer.2.1 66 = .ok (.iadd, 1) := by decide +kernel
theorem d_Md_dancer_67 : decode m_Md_dancer.2.1 67 = .ok (.iaload, 1) := by decide +kernel
theorem d_Md_dancer_68 : decode m_Md_dancer.2.1 68 = .ok (.invokevirtual 122, 3) := by decide +kernel
theorem d_Md_dancer_71 : decode m_Md_dancer.2.1 71 = .ok (.ireturn, 1) := by decide +kernel
theorem d_Md_dancer_72 : decode m_Md_dancer.2.1 72 = .ok (.aload_n 0, 1) := by decide +kernel
theorem d_Md_dancer_73 : decode m_Md_dancer.2.1 73 = .ok (.aload_n 0, 1) := by decide +kernel
theorem d_Md_dancer_74 : decode m_Md_dancer.2.1 74 = .ok (.iconst 0, 1) := by decide +kernel
theorem d_Md_dancer_75 : decode m_Md_dancer.2.1 75 = .ok (.iload_n 1, 1) := by decide +kernel
theorem d_Md_dancer_76 : decode m_Md_dancer.2.1 76 = .ok (.invokevirtual 235, 3) := by decide +kernel
theorem d_Md_dancer_79 : decode m_Md_dancer.2.1 79 = .ok (.invokevirtual 122, 3) := by decide +kernel
theorem d_Md_dancer_82 : decode m_Md_dancer.2.1 82 = .ok (.ireturn, 1) := by decide +kernel
theorem d_Md_dancer_83 : decode m_Md_dancer.2.1 83 = .ok (.aload_n 0, 1) := by decide +kernel
theorem d_Md_dancer_84 : decode m_Md_dancer.2.1 84 = .ok (.aload_n 0, 1) := by decide +kernel
theorem d_Md_dancer_85 : decode m_Md_dancer.2.1 85 = .ok (.iload_n 1, 1) := by decide +kernel
theorem d_Md_dancer_86 : decode m_Md_dancer.2.1 86 = .ok (.iconst 2, 1) := by decide +kernel
theorem d_Md_dancer_87 : decode m_Md_dancer.2.1 87 = .ok (.invokevirtual 340, 3) := by decide +kernel
abbrev m_Md_wentSo : aw_MI := (⟨"MaypoleGreenModel", "wentSo", "(II)I"⟩, prog_14_method_72_code, 5, some .int)
theorem lk_Md_340 : Cond.methodLink "MaypoleGreenModel" 340 m_Md_wentSo.1 ∈ aw_T := aw_in 1669 (by decide +kernel) rfl
theorem k_Md_wentSo : aw_K m_Md_wentSo 2 := ⟨aw_in 1672 (by decide +kernel) rfl, aw_in 16 (by decide +kernel) rfl, ⟨by decide, by decide, by decide +kernel⟩, by decide, by decide +kernel⟩
theorem in_Md_wentSo : Cond.instanceMethod m_Md_wentSo.1 ∈ aw_T := aw_in 1671 (by decide +kernel) rfl
theorem se_Md_wentSo : Cond.selects m_Md_wentSo.1.cls m_Md_wentSo.1 m_Md_wentSo.1 ∈ aw_T := aw_inP 101 (by decide +kernel) rfl
theorem d_Md_dancer_90 : decode m_Md_dancer.2.1 90 = .ok (.invokevirtual 122, 3) := by decide +kernel
theorem d_Md_dancer_93 : decode m_Md_dancer.2.1 93 = .ok (.ireturn, 1) := by decide +kernel
theorem d_Md_dancer_94 : decode m_Md_dancer.2.1 94 = .ok (.aload_n 0, 1) := by decide +kernel
theorem d_Md_dancer_95 : decode m_Md_dancer.2.1 95 = .ok (.aload_n 0, 1) := by decide +kernel
theorem d_Md_dancer_96 : decode m_Md_dancer.2.1 96 = .ok (.iload_n 1, 1) := by decide +kernel
theorem d_Md_dancer_97 : decode m_Md_dancer.2.1 97 = .ok (.iconst 3, 1) := by decide +kernel
theorem d_Md_dancer_98 : decode m_Md_dancer.2.1 98 = .ok (.invokevirtual 340, 3) := by decide +kernel
theorem d_Md_dancer_101 : decode m_Md_dancer.2.1 101 = .ok (.invokevirtual 122, 3) := by decide +kernel
theorem d_Md_dancer_104 : decode m_Md_dancer.2.1 104 = .ok (.ireturn, 1) := by decide +kernel
theorem d_Md_dancer_8 : decode m_Md_dancer.2.1 8 = .ok (.aload_n 0, 1) := by decide +kernel
theorem d_Md_dancer_9 : decode m_Md_dancer.2.1 9 = .ok (.iconst 1, 1) := by decide +kernel
theorem d_Md_dancer_10 : decode m_Md_dancer.2.1 10 = .ok (.invokevirtual 118, 3) := by decide +kernel
theorem d_Md_dancer_13 : decode m_Md_dancer.2.1 13 = .ok (.ireturn, 1) := by decide +kernel
theorem d_Md_isDancer_0 : decode m_Md_isDancer.2.1 0 = .ok (.iload_n 1, 1) := by decide +kernel
theorem d_Md_isDancer_1 : decode m_Md_isDancer.2.1 1 = .ok (.ifCond .lt 17, 3) := by decide +kernel
theorem d_Md_isDancer_18 : decode m_Md_isDancer.2.1 18 = .ok (.iconst 0, 1) := by decide +kernel
theorem d_Md_isDancer_19 : decode m_Md_isDancer.2.1 19 = .ok (.ireturn, 1) := by decide +kernel
theorem d_Md_isDancer_4 : decode m_Md_isDancer.2.1 4 = .ok (.iload_n 1, 1) := by decide +kernel
theorem d_Md_isDancer_5 : decode m_Md_isDancer.2.1 5 = .ok (.aload_n 0, 1) := by decide +kernel
theorem d_Md_isDancer_6 : decode m_Md_isDancer.2.1 6 = .ok (.getfield 7, 3) := by decide +kernel
theorem d_Md_isDancer_9 : decode m_Md_isDancer.2.1 9 = .ok (.iconst 0, 1) := by decide +kernel
theorem d_Md_isDancer_10 : decode m_Md_isDancer.2.1 10 = .ok (.iaload, 1) := by decide +kernel
theorem d_Md_isDancer_11 : decode m_Md_isDancer.2.1 11 = .ok (.if_icmp .ge 7, 3) := by decide +kernel
theorem d_Md_isDancer_14 : decode m_Md_isDancer.2.1 14 = .ok (.iconst 1, 1) := by decide +kernel
theorem d_Md_isDancer_15 : decode m_Md_isDancer.2.1 15 = .ok (.goto 4, 3) := by decide +kernel
theorem d_Md_placeOf_0 : decode m_Md_placeOf.2.1 0 = .ok (.iconst 0, 1) := by decide +kernel
theorem d_Md_placeOf_1 : decode m_Md_placeOf.2.1 1 = .ok (.istore_n 2, 1) := by decide +kernel
theorem d_Md_placeOf_2 : decode m_Md_placeOf.2.1 2 = .ok (.aload_n 0, 1) := by decide +kernel
theorem d_Md_placeOf_3 : decode m_Md_placeOf.2.1 3 = .ok (.getfield 7, 3) := by decide +kernel
theorem d_Md_placeOf_6 : decode m_Md_placeOf.2.1 6 = .ok (.bipush 17, 2) := by decide +kernel
theorem d_Md_placeOf_8 : decode m_Md_placeOf.2.1 8 = .ok (.iload_n 2, 1) := by decide +kernel
theorem d_Md_placeOf_9 : decode m_Md_placeOf.2.1 9 = .ok (.iadd, 1) := by decide +kernel
theorem d_Md_placeOf_10 : decode m_Md_placeOf.2.1 10 = .ok (.iaload, 1) := by decide +kernel
theorem d_Md_placeOf_11 : decode m_Md_placeOf.2.1 11 = .ok (.iload_n 1, 1) := by decide +kernel
theorem d_Md_placeOf_12 : decode m_Md_placeOf.2.1 12 = .ok (.if_icmp .eq 9, 3) := by decide +kernel
theorem d_Md_placeOf_21 : decode m_Md_placeOf.2.1 21 = .ok (.iload_n 2, 1) := by decide +kernel
theorem d_Md_placeOf_22 : decode m_Md_placeOf.2.1 22 = .ok (.ireturn, 1) := by decide +kernel
theorem d_Md_placeOf_15 : decode m_Md_placeOf.2.1 15 = .ok (.iinc 2 1, 3) := by decide +kernel
theorem d_Md_placeOf_18 : decode m_Md_placeOf.2.1 18 = .ok (.goto (-16), 3) := by decide +kernel
theorem d_Md_wentSo_0 : decode m_Md_wentSo.2.1 0 = .ok (.iconst 0, 1) := by decide +kernel
theorem d_Md_wentSo_1 : decode m_Md_wentSo.2.1 1 = .ok (.istore_n 3, 1) := by decide +kernel
theorem d_Md_wentSo_2 : decode m_Md_wentSo.2.1 2 = .ok (.iconst 0, 1) := by decide +kernel
theorem d_Md_wentSo_3 : decode m_Md_wentSo.2.1 3 = .ok (.istore 4, 2) := by decide +kernel
theorem d_Md_wentSo_5 : decode m_Md_wentSo.2.1 5 = .ok (.iload 4, 2) := by decide +kernel
theorem d_Md_wentSo_7 : decode m_Md_wentSo.2.1 7 = .ok (.aload_n 0, 1) := by decide +kernel
theorem d_Md_wentSo_8 : decode m_Md_wentSo.2.1 8 = .ok (.getfield 7, 3) := by decide +kernel
theorem d_Md_wentSo_11 : decode m_Md_wentSo.2.1 11 = .ok (.iconst 3, 1) := by decide +kernel
theorem d_Md_wentSo_12 : decode m_Md_wentSo.2.1 12 = .ok (.iaload, 1) := by decide +kernel
theorem d_Md_wentSo_13 : decode m_Md_wentSo.2.1 13 = .ok (.if_icmp .ge 28, 3) := by decide +kernel
theorem d_Md_wentSo_41 : decode m_Md_wentSo.2.1 41 = .ok (.iload_n 3, 1) := by decide +kernel
theorem d_Md_wentSo_42 : decode m_Md_wentSo.2.1 42 = .ok (.ireturn, 1) := by decide +kernel
theorem d_Md_wentSo_16 : decode m_Md_wentSo.2.1 16 = .ok (.iload_n 3, 1) := by decide +kernel
theorem d_Md_wentSo_17 : decode m_Md_wentSo.2.1 17 = .ok (.aload_n 0, 1) := by decide +kernel
theorem d_Md_wentSo_18 : decode m_Md_wentSo.2.1 18 = .ok (.iload 4, 2) := by decide +kernel
theorem d_Md_wentSo_20 : decode m_Md_wentSo.2.1 20 = .ok (.iload_n 2, 1) := by decide +kernel
theorem d_Md_wentSo_21 : decode m_Md_wentSo.2.1 21 = .ok (.invokevirtual 316, 3) := by decide +kernel
theorem d_Md_wentSo_24 : decode m_Md_wentSo.2.1 24 = .ok (.iload_n 1, 1) := by decide +kernel
theorem d_Md_wentSo_25 : decode m_Md_wentSo.2.1 25 = .ok (.if_icmp .ne 7, 3) := by decide +kernel
theorem d_Md_wentSo_32 : decode m_Md_wentSo.2.1 32 = .ok (.iconst 0, 1) := by decide +kernel
theorem d_Md_wentSo_33 : decode m_Md_wentSo.2.1 33 = .ok (.iadd, 1) := by decide +kernel
theorem d_Md_wentSo_34 : decode m_Md_wentSo.2.1 34 = .ok (.istore_n 3, 1) := by decide +kernel
theorem d_Md_wentSo_35 : decode m_Md_wentSo.2.1 35 = .ok (.iinc 4 1, 3) := by decide +kernel
theorem d_Md_wentSo_38 : decode m_Md_wentSo.2.1 38 = .ok (.goto (-33), 3) := by decide +kernel
theorem d_Md_wentSo_28 : decode m_Md_wentSo.2.1 28 = .ok (.iconst 1, 1) := by decide +kernel
theorem d_Md_wentSo_29 : decode m_Md_wentSo.2.1 29 = .ok (.goto 4, 3) := by decide +kernel
abbrev m_Md_place : aw_MI := (⟨"MaypoleGreenModel", "place", "(I)I"⟩, prog_14_method_74_code, 2, some .int)
theorem k_Md_place : aw_K m_Md_place 1 := ⟨aw_in 1676 (by decide +kernel) rfl, aw_in 16 (by decide +kernel) rfl, ⟨by decide, by decide, by decide +kernel⟩, by decide, by decide +kernel⟩
theorem d_Md_place_0 : decode m_Md_place.2.1 0 = .ok (.aload_n 0, 1) := by decide +kernel
theorem d_Md_place_1 : decode m_Md_place.2.1 1 = .ok (.iload_n 1, 1) := by decide +kernel
theorem d_Md_place_2 : decode m_Md_place.2.1 2 = .ok (.invokevirtual 313, 3) := by decide +kernel
theorem d_Md_place_5 : decode m_Md_place.2.1 5 = .ok (.ifCond .eq 19, 3) := by decide +kernel
theorem d_Md_place_24 : decode m_Md_place.2.1 24 = .ok (.aload_n 0, 1) := by decide +kernel
theorem d_Md_place_25 : decode m_Md_place.2.1 25 = .ok (.iconst 1, 1) := by decide +kernel
theorem d_Md_place_26 : decode m_Md_place.2.1 26 = .ok (.invokevirtual 118, 3) := by decide +kernel
theorem d_Md_place_29 : decode m_Md_place.2.1 29 = .ok (.ireturn, 1) := by decide +kernel
theorem d_Md_place_8 : decode m_Md_place.2.1 8 = .ok (.aload_n 0, 1) := by decide +kernel
theorem d_Md_place_9 : decode m_Md_place.2.1 9 = .ok (.aload_n 0, 1) := by decide +kernel
theorem d_Md_place_10 : decode m_Md_place.2.1 10 = .ok (.getfield 7, 3) := by decide +kernel
theorem d_Md_place_13 : decode m_Md_place.2.1 13 = .ok (.bipush 17, 2) := by decide +kernel
theorem d_Md_place_15 : decode m_Md_place.2.1 15 = .ok (.iload_n 1, 1) := by decide +kernel
theorem d_Md_place_16 : decode m_Md_place.2.1 16 = .ok (.iadd, 1) := by decide +kernel
theorem d_Md_place_17 : decode m_Md_place.2.1 17 = .ok (.iaload, 1) := by decide +kernel
theorem d_Md_place_18 : decode m_Md_place.2.1 18 = .ok (.invokevirtual 122, 3) := by decide +kernel
theorem d_Md_place_21 : decode m_Md_place.2.1 21 = .ok (.goto 8, 3) := by decide +kernel
abbrev m_Md_plait : aw_MI := (⟨"MaypoleGreenModel", "plait", "(II)I"⟩, prog_14_method_76_code, 3, some .int)
theorem k_Md_plait : aw_K m_Md_plait 2 := ⟨aw_in 1680 (by decide +kernel) rfl, aw_in 16 (by decide +kernel) rfl, ⟨by decide, by decide, by decide +kernel⟩, by decide, by decide +kernel⟩
theorem d_Md_plait_0 : decode m_Md_plait.2.1 0 = .ok (.iload_n 2, 1) := by decide +kernel
theorem d_Md_plait_1 : decode m_Md_plait.2.1 1 = .ok (.ifCond .lt 9, 3) := by decide +kernel
theorem d_Md_plait_10 : decode m_Md_plait.2.1 10 = .ok (.aload_n 0, 1) := by decide +kernel
theorem d_Md_plait_11 : decode m_Md_plait.2.1 11 = .ok (.iconst 1, 1) := by decide +kernel
theorem d_Md_plait_12 : decode m_Md_plait.2.1 12 = .ok (.invokevirtual 118, 3) := by decide +kernel
theorem d_Md_plait_15 : decode m_Md_plait.2.1 15 = .ok (.ireturn, 1) := by decide +kernel
theorem d_Md_plait_4 : decode m_Md_plait.2.1 4 = .ok (.iload_n 2, 1) := by decide +kernel
theorem d_Md_plait_5 : decode m_Md_plait.2.1 5 = .ok (.bipush 6, 2) := by decide +kernel
theorem d_Md_plait_7 : decode m_Md_plait.2.1 7 = .ok (.if_icmp .le 9, 3) := by decide +kernel
theorem d_Md_plait_16 : decode m_Md_plait.2.1 16 = .ok (.iload_n 1, 1) := by decide +kernel
theorem d_Md_plait_17 : decode m_Md_plait.2.1 17 = .ok (.ifCond .lt 13, 3) := by decide +kernel
theorem d_Md_plait_30 : decode m_Md_plait.2.1 30 = .ok (.aload_n 0, 1) := by decide +kernel
theorem d_Md_plait_31 : decode m_Md_plait.2.1 31 = .ok (.bipush 6, 2) := by decide +kernel
theorem d_Md_plait_33 : decode m_Md_plait.2.1 33 = .ok (.invokevirtual 118, 3) := by decide +kernel
theorem d_Md_plait_36 : decode m_Md_plait.2.1 36 = .ok (.ireturn, 1) := by decide +kernel
theorem d_Md_plait_20 : decode m_Md_plait.2.1 20 = .ok (.iload_n 1, 1) := by decide +kernel
theorem d_Md_plait_21 : decode m_Md_plait.2.1 21 = .ok (.aload_n 0, 1) := by decide +kernel
theorem d_Md_plait_22 : decode m_Md_plait.2.1 22 = .ok (.getfield 7, 3) := by decide +kernel
theorem d_Md_plait_25 : decode m_Md_plait.2.1 25 = .ok (.iconst 3, 1) := by decide +kernel
theorem d_Md_plait_26 : decode m_Md_plait.2.1 26 = .ok (.iaload, 1) := by decide +kernel
theorem d_Md_plait_27 : decode m_Md_plait.2.1 27 = .ok (.if_icmp .lt 10, 3) := by decide +kernel
theorem d_Md_plait_37 : decode m_Md_plait.2.1 37 = .ok (.iload_n 2, 1) := by decide +kernel
theorem d_Md_plait_38 : decode m_Md_plait.2.1 38 = .ok (.tableswitch 71 4 6 #[26, 42, 61], 26) := by decide +kernel
theorem d_Md_plait_109 : decode m_Md_plait.2.1 109 = .ok (.aload_n 0, 1) := by decide +kernel
theorem d_Md_plait_110 : decode m_Md_plait.2.1 110 = .ok (.aload_n 0, 1) := by decide +kernel
theorem d_Md_plait_111 : decode m_Md_plait.2.1 111 = .ok (.iload_n 1, 1) := by decide +kernel
theorem d_Md_plait_112 : decode m_Md_plait.2.1 112 = .ok (.iload_n 2, 1) := by decide +kernel
theorem d_Md_plait_113 : decode m_Md_plait.2.1 113 = .ok (.invokevirtual 316, 3) := by decide +kernel
theorem d_Md_plait_116 : decode m_Md_plait.2.1 116 = .ok (.invokevirtual 122, 3) := by decide +kernel
theorem d_Md_plait_119 : decode m_Md_plait.2.1 119 = .ok (.ireturn, 1) := by decide +kernel
theorem d_Md_plait_64 : decode m_Md_plait.2.1 64 = .ok (.aload_n 0, 1) := by decide +kernel
theorem d_Md_plait_65 : decode m_Md_plait.2.1 65 = .ok (.invokevirtual 325, 3) := by decide +kernel
theorem d_Md_plait_68 : decode m_Md_plait.2.1 68 = .ok (.pop, 1) := by decide +kernel
theorem d_Md_plait_69 : decode m_Md_plait.2.1 69 = .ok (.aload_n 0, 1) := by decide +kernel
theorem d_Md_plait_70 : decode m_Md_plait.2.1 70 = .ok (.aload_n 0, 1) := by decide +kernel
theorem d_Md_plait_71 : decode m_Md_plait.2.1 71 = .ok (.getfield 47, 3) := by decide +kernel
theorem d_Md_plait_74 : decode m_Md_plait.2.1 74 = .ok (.iload_n 1, 1) := by decide +kernel
theorem d_Md_plait_75 : decode m_Md_plait.2.1 75 = .ok (.iaload, 1) := by decide +kernel
theorem d_Md_plait_76 : decode m_Md_plait.2.1 76 = .ok (.invokevirtual 122, 3) := by decide +kernel
theorem d_Md_plait_79 : decode m_Md_plait.2.1 79 = .ok (.ireturn, 1) := by decide +kernel
theorem d_Md_plait_80 : decode m_Md_plait.2.1 80 = .ok (.aload_n 0, 1) := by decide +kernel
theorem d_Md_plait_81 : decode m_Md_plait.2.1 81 = .ok (.aload_n 0, 1) := by decide +kernel
theorem d_Md_plait_82 : decode m_Md_plait.2.1 82 = .ok (.iconst 0, 1) := by decide +kernel
theorem d_Md_plait_83 : decode m_Md_plait.2.1 83 = .ok (.iload_n 1, 1) := by decide +kernel
theorem d_Md_plait_84 : decode m_Md_plait.2.1 84 = .ok (.invokevirtual 224, 3) := by decide +kernel
theorem d_Md_plait_87 : decode m_Md_plait.2.1 87 = .ok (.ifCond .eq 7, 3) := by decide +kernel
theorem d_Md_plait_94 : decode m_Md_plait.2.1 94 = .ok (.iconst 0, 1) := by decide +kernel
theorem d_Md_plait_95 : decode m_Md_plait.2.1 95 = .ok (.invokevirtual 122, 3) := by decide +kernel
theorem d_Md_plait_98 : decode m_Md_plait.2.1 98 = .ok (.ireturn, 1) := by decide +kernel
theorem d_Md_plait_90 : decode m_Md_plait.2.1 90 = .ok (.iconst 1, 1) := by decide +kernel
theorem d_Md_plait_91 : decode m_Md_plait.2.1 91 = .ok (.goto 4, 3) := by decide +kernel
theorem d_Md_plait_99 : decode m_Md_plait.2.1 99 = .ok (.aload_n 0, 1) := by decide +kernel
theorem d_Md_plait_100 : decode m_Md_plait.2.1 100 = .ok (.aload_n 0, 1) := by decide +kernel
theorem d_Md_plait_101 : decode m_Md_plait.2.1 101 = .ok (.iload_n 1, 1) := by decide +kernel
theorem d_Md_plait_102 : decode m_Md_plait.2.1 102 = .ok (.invokevirtual 346, 3) := by decide +kernel
abbrev m_Md_holdsOf : aw_MI := (⟨"MaypoleGreenModel", "holdsOf", "(I)I"⟩, prog_14_method_75_code, 3, some .int)
theorem lk_Md_346 : Cond.methodLink "MaypoleGreenModel" 346 m_Md_holdsOf.1 ∈ aw_T := aw_in 1681 (by decide +kernel) rfl
theorem k_Md_holdsOf : aw_K m_Md_holdsOf 1 := ⟨aw_in 1684 (by decide +kernel) rfl, aw_in 16 (by decide +kernel) rfl, ⟨by decide, by decide, by decide +kernel⟩, by decide, by decide +kernel⟩
theorem in_Md_holdsOf : Cond.instanceMethod m_Md_holdsOf.1 ∈ aw_T := aw_in 1683 (by decide +kernel) rfl
theorem se_Md_holdsOf : Cond.selects m_Md_holdsOf.1.cls m_Md_holdsOf.1 m_Md_holdsOf.1 ∈ aw_T := aw_inP 102 (by decide +kernel) rfl
theorem d_Md_plait_105 : decode m_Md_plait.2.1 105 = .ok (.invokevirtual 122, 3) := by decide +kernel
theorem d_Md_plait_108 : decode m_Md_plait.2.1 108 = .ok (.ireturn, 1) := by decide +kernel
theorem d_Md_holdsOf_0 : decode m_Md_holdsOf.2.1 0 = .ok (.iconst 0, 1) := by decide +kernel
theorem d_Md_holdsOf_1 : decode m_Md_holdsOf.2.1 1 = .ok (.istore_n 2, 1) := by decide +kernel
theorem d_Md_holdsOf_2 : decode m_Md_holdsOf.2.1 2 = .ok (.iload_n 2, 1) := by decide +kernel
theorem d_Md_holdsOf_3 : decode m_Md_holdsOf.2.1 3 = .ok (.bipush 40, 2) := by decide +kernel
theorem d_Md_holdsOf_5 : decode m_Md_holdsOf.2.1 5 = .ok (.if_icmp .ge 25, 3) := by decide +kernel
theorem d_Md_holdsOf_30 : decode m_Md_holdsOf.2.1 30 = .ok (.aload_n 0, 1) := by decide +kernel
theorem d_Md_holdsOf_31 : decode m_Md_holdsOf.2.1 31 = .ok (.invokevirtual 343, 3) := by decide +kernel
abbrev m_Md_laysHeld : aw_MI := (⟨"MaypoleGreenModel", "laysHeld", "()I"⟩, prog_14_method_66_code, 4, some .int)
theorem lk_Md_343 : Cond.methodLink "MaypoleGreenModel" 343 m_Md_laysHeld.1 ∈ aw_T := aw_in 1685 (by decide +kernel) rfl
theorem k_Md_laysHeld : aw_K m_Md_laysHeld 0 := ⟨aw_in 1688 (by decide +kernel) rfl, aw_in 16 (by decide +kernel) rfl, ⟨by decide, by decide, by decide +kernel⟩, by decide, by decide +kernel⟩
theorem in_Md_laysHeld : Cond.instanceMethod m_Md_laysHeld.1 ∈ aw_T := aw_in 1687 (by decide +kernel) rfl
theorem se_Md_laysHeld : Cond.selects m_Md_laysHeld.1.cls m_Md_laysHeld.1 m_Md_laysHeld.1 ∈ aw_T := aw_inP 103 (by decide +kernel) rfl
theorem d_Md_holdsOf_34 : decode m_Md_holdsOf.2.1 34 = .ok (.ireturn, 1) := by decide +kernel
theorem d_Md_holdsOf_8 : decode m_Md_holdsOf.2.1 8 = .ok (.aload_n 0, 1) := by decide +kernel
theorem d_Md_holdsOf_9 : decode m_Md_holdsOf.2.1 9 = .ok (.getfield 50, 3) := by decide +kernel
theorem f_Md_50 : aw_F "MaypoleGreenModel" 50 11 25 true := ⟨cR11, cT11, 52, fun k => cY11.getD k .int, rfl, ci11, cy11, cn11, rfl, by decide, aw_in 1279 (by decide +kernel) rfl, rfl, rfl, rfl⟩
theorem d_Md_holdsOf_12 : decode m_Md_holdsOf.2.1 12 = .ok (.iload_n 2, 1) := by decide +kernel
theorem d_Md_holdsOf_13 : decode m_Md_holdsOf.2.1 13 = .ok (.iload_n 2, 1) := by decide +kernel
theorem d_Md_holdsOf_14 : decode m_Md_holdsOf.2.1 14 = .ok (.iload_n 1, 1) := by decide +kernel
theorem d_Md_holdsOf_15 : decode m_Md_holdsOf.2.1 15 = .ok (.if_icmp .ne 7, 3) := by decide +kernel
theorem d_Md_holdsOf_22 : decode m_Md_holdsOf.2.1 22 = .ok (.iconst 0, 1) := by decide +kernel
theorem d_Md_holdsOf_23 : decode m_Md_holdsOf.2.1 23 = .ok (.bastore, 1) := by decide +kernel
theorem d_Md_holdsOf_24 : decode m_Md_holdsOf.2.1 24 = .ok (.iinc 2 1, 3) := by decide +kernel
theorem d_Md_holdsOf_27 : decode m_Md_holdsOf.2.1 27 = .ok (.goto (-25), 3) := by decide +kernel
theorem d_Md_holdsOf_18 : decode m_Md_holdsOf.2.1 18 = .ok (.iconst 1, 1) := by decide +kernel
theorem d_Md_holdsOf_19 : decode m_Md_holdsOf.2.1 19 = .ok (.goto 4, 3) := by decide +kernel
theorem d_Md_laysHeld_0 : decode m_Md_laysHeld.2.1 0 = .ok (.iconst 0, 1) := by decide +kernel
theorem d_Md_laysHeld_1 : decode m_Md_laysHeld.2.1 1 = .ok (.istore_n 1, 1) := by decide +kernel
theorem d_Md_laysHeld_2 : decode m_Md_laysHeld.2.1 2 = .ok (.iconst 0, 1) := by decide +kernel
theorem d_Md_laysHeld_3 : decode m_Md_laysHeld.2.1 3 = .ok (.istore_n 2, 1) := by decide +kernel
theorem d_Md_laysHeld_4 : decode m_Md_laysHeld.2.1 4 = .ok (.iload_n 2, 1) := by decide +kernel
theorem d_Md_laysHeld_5 : decode m_Md_laysHeld.2.1 5 = .ok (.aload_n 0, 1) := by decide +kernel
theorem d_Md_laysHeld_6 : decode m_Md_laysHeld.2.1 6 = .ok (.getfield 7, 3) := by decide +kernel
theorem d_Md_laysHeld_9 : decode m_Md_laysHeld.2.1 9 = .ok (.iconst 3, 1) := by decide +kernel
theorem d_Md_laysHeld_10 : decode m_Md_laysHeld.2.1 10 = .ok (.iaload, 1) := by decide +kernel
theorem d_Md_laysHeld_11 : decode m_Md_laysHeld.2.1 11 = .ok (.if_icmp .ge 88, 3) := by decide +kernel
theorem d_Md_laysHeld_99 : decode m_Md_laysHeld.2.1 99 = .ok (.iload_n 1, 1) := by decide +kernel
theorem d_Md_laysHeld_100 : decode m_Md_laysHeld.2.1 100 = .ok (.ireturn, 1) := by decide +kernel
theorem d_Md_laysHeld_14 : decode m_Md_laysHeld.2.1 14 = .ok (.iconst 0, 1) := by decide +kernel
theorem d_Md_laysHeld_15 : decode m_Md_laysHeld.2.1 15 = .ok (.istore_n 3, 1) := by decide +kernel
theorem d_Md_laysHeld_16 : decode m_Md_laysHeld.2.1 16 = .ok (.iload_n 3, 1) := by decide +kernel
theorem d_Md_laysHeld_17 : decode m_Md_laysHeld.2.1 17 = .ok (.iload_n 2, 1) := by decide +kernel
theorem d_Md_laysHeld_18 : decode m_Md_laysHeld.2.1 18 = .ok (.if_icmp .ge 58, 3) := by decide +kernel
theorem d_Md_laysHeld_76 : decode m_Md_laysHeld.2.1 76 = .ok (.iload_n 1, 1) := by decide +kernel
theorem d_Md_laysHeld_77 : decode m_Md_laysHeld.2.1 77 = .ok (.aload_n 0, 1) := by decide +kernel
theorem d_Md_laysHeld_78 : decode m_Md_laysHeld.2.1 78 = .ok (.getfield 50, 3) := by decide +kernel
theorem d_Md_laysHeld_81 : decode m_Md_laysHeld.2.1 81 = .ok (.iload_n 2, 1) := by decide +kernel
theorem d_Md_laysHeld_82 : decode m_Md_laysHeld.2.1 82 = .ok (.baload, 1) := by decide +kernel
theorem d_Md_laysHeld_83 : decode m_Md_laysHeld.2.1 83 = .ok (.ifCond .eq 7, 3) := by decide +kernel
theorem d_Md_laysHeld_90 : decode m_Md_laysHeld.2.1 90 = .ok (.iconst 0, 1) := by decide +kernel
theorem d_Md_laysHeld_91 : decode m_Md_laysHeld.2.1 91 = .ok (.iadd, 1) := by decide +kernel
theorem d_Md_laysHeld_92 : decode m_Md_laysHeld.2.1 92 = .ok (.istore_n 1, 1) := by decide +kernel
theorem d_Md_laysHeld_93 : decode m_Md_laysHeld.2.1 93 = .ok (.iinc 2 1, 3) := by decide +kernel
theorem d_Md_laysHeld_96 : decode m_Md_laysHeld.2.1 96 = .ok (.goto (-92), 3) := by decide +kernel
theorem d_Md_laysHeld_86 : decode m_Md_laysHeld.2.1 86 = .ok (.iconst 1, 1) := by decide +kernel
theorem d_Md_laysHeld_87 : decode m_Md_laysHeld.2.1 87 = .ok (.goto 4, 3) := by decide +kernel
theorem d_Md_laysHeld_21 : decode m_Md_laysHeld.2.1 21 = .ok (.aload_n 0, 1) := by decide +kernel
theorem d_Md_laysHeld_22 : decode m_Md_laysHeld.2.1 22 = .ok (.getfield 50, 3) := by decide +kernel
theorem d_Md_laysHeld_25 : decode m_Md_laysHeld.2.1 25 = .ok (.iload_n 2, 1) := by decide +kernel
theorem d_Md_laysHeld_26 : decode m_Md_laysHeld.2.1 26 = .ok (.baload, 1) := by decide +kernel
theorem d_Md_laysHeld_27 : decode m_Md_laysHeld.2.1 27 = .ok (.ifCond .ne 49, 3) := by decide +kernel
theorem d_Md_laysHeld_30 : decode m_Md_laysHeld.2.1 30 = .ok (.aload_n 0, 1) := by decide +kernel
theorem d_Md_laysHeld_31 : decode m_Md_laysHeld.2.1 31 = .ok (.getfield 50, 3) := by decide +kernel
theorem d_Md_laysHeld_34 : decode m_Md_laysHeld.2.1 34 = .ok (.iload_n 2, 1) := by decide +kernel
theorem d_Md_laysHeld_35 : decode m_Md_laysHeld.2.1 35 = .ok (.aload_n 0, 1) := by decide +kernel
theorem d_Md_laysHeld_36 : decode m_Md_laysHeld.2.1 36 = .ok (.getfield 50, 3) := by decide +kernel
theorem d_Md_laysHeld_39 : decode m_Md_laysHeld.2.1 39 = .ok (.iload_n 3, 1) := by decide +kernel
theorem d_Md_laysHeld_40 : decode m_Md_laysHeld.2.1 40 = .ok (.baload, 1) := by decide +kernel
theorem d_Md_laysHeld_41 : decode m_Md_laysHeld.2.1 41 = .ok (.ifCond .eq 27, 3) := by decide +kernel
theorem d_Md_laysHeld_68 : decode m_Md_laysHeld.2.1 68 = .ok (.iconst 0, 1) := by decide +kernel
theorem d_Md_laysHeld_69 : decode m_Md_laysHeld.2.1 69 = .ok (.bastore, 1) := by decide +kernel
theorem d_Md_laysHeld_70 : decode m_Md_laysHeld.2.1 70 = .ok (.iinc 3 1, 3) := by decide +kernel
theorem d_Md_laysHeld_73 : decode m_Md_laysHeld.2.1 73 = .ok (.goto (-57), 3) := by decide +kernel
theorem d_Md_laysHeld_44 : decode m_Md_laysHeld.2.1 44 = .ok (.aload_n 0, 1) := by decide +kernel
theorem d_Md_laysHeld_45 : decode m_Md_laysHeld.2.1 45 = .ok (.iconst 0, 1) := by decide +kernel
theorem d_Md_laysHeld_46 : decode m_Md_laysHeld.2.1 46 = .ok (.aload_n 0, 1) := by decide +kernel
theorem d_Md_laysHeld_47 : decode m_Md_laysHeld.2.1 47 = .ok (.iload_n 3, 1) := by decide +kernel
theorem d_Md_laysHeld_48 : decode m_Md_laysHeld.2.1 48 = .ok (.iconst 0, 1) := by decide +kernel
theorem d_Md_laysHeld_49 : decode m_Md_laysHeld.2.1 49 = .ok (.invokevirtual 316, 3) := by decide +kernel
theorem d_Md_laysHeld_52 : decode m_Md_laysHeld.2.1 52 = .ok (.aload_n 0, 1) := by decide +kernel
theorem d_Md_laysHeld_53 : decode m_Md_laysHeld.2.1 53 = .ok (.iload_n 2, 1) := by decide +kernel
theorem d_Md_laysHeld_54 : decode m_Md_laysHeld.2.1 54 = .ok (.iconst 0, 1) := by decide +kernel
theorem d_Md_laysHeld_55 : decode m_Md_laysHeld.2.1 55 = .ok (.invokevirtual 316, 3) := by decide +kernel
theorem d_Md_laysHeld_58 : decode m_Md_laysHeld.2.1 58 = .ok (.invokevirtual 217, 3) := by decide +kernel
theorem d_Md_laysHeld_61 : decode m_Md_laysHeld.2.1 61 = .ok (.ifCond .eq 7, 3) := by decide +kernel
theorem d_Md_laysHeld_64 : decode m_Md_laysHeld.2.1 64 = .ok (.iconst 1, 1) := by decide +kernel
theorem d_Md_laysHeld_65 : decode m_Md_laysHeld.2.1 65 = .ok (.goto 4, 3) := by decide +kernel
abbrev m_Md_shows : aw_MI := (⟨"MaypoleGreenModel", "shows", "(I)I"⟩, prog_14_method_77_code, 2, some .int)
theorem k_Md_shows : aw_K m_Md_shows 1 := ⟨aw_in 1692 (by decide +kernel) rfl, aw_in 16 (by decide +kernel) rfl, ⟨by decide, by decide, by decide +kernel⟩, by decide, by decide +kernel⟩
theorem d_Md_shows_0 : decode m_Md_shows.2.1 0 = .ok (.aload_n 0, 1) := by decide +kernel
theorem d_Md_shows_1 : decode m_Md_shows.2.1 1 = .ok (.iload_n 1, 1) := by decide +kernel
theorem d_Md_shows_2 : decode m_Md_shows.2.1 2 = .ok (.invokevirtual 349, 3) := by decide +kernel
abbrev m_Md_isGap : aw_MI := (⟨"MaypoleGreenModel", "isGap", "(I)Z"⟩, prog_14_method_61_code, 2, some .boolean)
theorem lk_Md_349 : Cond.methodLink "MaypoleGreenModel" 349 m_Md_isGap.1 ∈ aw_T := aw_in 1693 (by decide +kernel) rfl
theorem k_Md_isGap : aw_K m_Md_isGap 1 := ⟨aw_in 1696 (by decide +kernel) rfl, aw_in 16 (by decide +kernel) rfl, ⟨by decide, by decide, by decide +kernel⟩, by decide, by decide +kernel⟩
theorem in_Md_isGap : Cond.instanceMethod m_Md_isGap.1 ∈ aw_T := aw_in 1695 (by decide +kernel) rfl
theorem se_Md_isGap : Cond.selects m_Md_isGap.1.cls m_Md_isGap.1 m_Md_isGap.1 ∈ aw_T := aw_inP 104 (by decide +kernel) rfl
theorem d_Md_shows_5 : decode m_Md_shows.2.1 5 = .ok (.ifCond .ne 9, 3) := by decide +kernel
theorem d_Md_shows_14 : decode m_Md_shows.2.1 14 = .ok (.aload_n 0, 1) := by decide +kernel
theorem d_Md_shows_15 : decode m_Md_shows.2.1 15 = .ok (.iload_n 1, 1) := by decide +kernel
theorem d_Md_shows_16 : decode m_Md_shows.2.1 16 = .ok (.invokevirtual 319, 3) := by decide +kernel
theorem d_Md_shows_19 : decode m_Md_shows.2.1 19 = .ok (.bipush 6, 2) := by decide +kernel
theorem d_Md_shows_21 : decode m_Md_shows.2.1 21 = .ok (.if_icmp .ne 12, 3) := by decide +kernel
theorem d_Md_shows_33 : decode m_Md_shows.2.1 33 = .ok (.aload_n 0, 1) := by decide +kernel
theorem d_Md_shows_34 : decode m_Md_shows.2.1 34 = .ok (.aload_n 0, 1) := by decide +kernel
theorem d_Md_shows_35 : decode m_Md_shows.2.1 35 = .ok (.iload_n 1, 1) := by decide +kernel
theorem d_Md_shows_36 : decode m_Md_shows.2.1 36 = .ok (.invokevirtual 319, 3) := by decide +kernel
theorem d_Md_shows_39 : decode m_Md_shows.2.1 39 = .ok (.invokevirtual 122, 3) := by decide +kernel
theorem d_Md_shows_42 : decode m_Md_shows.2.1 42 = .ok (.ireturn, 1) := by decide +kernel
theorem d_Md_shows_24 : decode m_Md_shows.2.1 24 = .ok (.aload_n 0, 1) := by decide +kernel
theorem d_Md_shows_25 : decode m_Md_shows.2.1 25 = .ok (.bipush 6, 2) := by decide +kernel
theorem d_Md_shows_27 : decode m_Md_shows.2.1 27 = .ok (.invokevirtual 118, 3) := by decide +kernel
theorem d_Md_shows_30 : decode m_Md_shows.2.1 30 = .ok (.goto 12, 3) := by decide +kernel
theorem d_Md_shows_8 : decode m_Md_shows.2.1 8 = .ok (.aload_n 0, 1) := by decide +kernel
theorem d_Md_shows_9 : decode m_Md_shows.2.1 9 = .ok (.iconst 1, 1) := by decide +kernel
theorem d_Md_shows_10 : decode m_Md_shows.2.1 10 = .ok (.invokevirtual 118, 3) := by decide +kernel
theorem d_Md_shows_13 : decode m_Md_shows.2.1 13 = .ok (.ireturn, 1) := by decide +kernel
theorem d_Md_isGap_0 : decode m_Md_isGap.2.1 0 = .ok (.iload_n 1, 1) := by decide +kernel
theorem d_Md_isGap_1 : decode m_Md_isGap.2.1 1 = .ok (.ifCond .lt 16, 3) := by decide +kernel
theorem d_Md_isGap_17 : decode m_Md_isGap.2.1 17 = .ok (.iconst 0, 1) := by decide +kernel
theorem d_Md_isGap_18 : decode m_Md_isGap.2.1 18 = .ok (.ireturn, 1) := by decide +kernel
theorem d_Md_isGap_4 : decode m_Md_isGap.2.1 4 = .ok (.iload_n 1, 1) := by decide +kernel
theorem d_Md_isGap_5 : decode m_Md_isGap.2.1 5 = .ok (.aload_n 0, 1) := by decide +kernel
theorem d_Md_isGap_6 : decode m_Md_isGap.2.1 6 = .ok (.iconst 0, 1) := by decide +kernel
theorem d_Md_isGap_7 : decode m_Md_isGap.2.1 7 = .ok (.invokevirtual 260, 3) := by decide +kernel
theorem d_Md_isGap_10 : decode m_Md_isGap.2.1 10 = .ok (.if_icmp .ge 7, 3) := by decide +kernel
theorem d_Md_isGap_13 : decode m_Md_isGap.2.1 13 = .ok (.iconst 1, 1) := by decide +kernel
theorem d_Md_isGap_14 : decode m_Md_isGap.2.1 14 = .ok (.goto 4, 3) := by decide +kernel
abbrev m_Md_passes : aw_MI := (⟨"MaypoleGreenModel", "passes", "(I)I"⟩, prog_14_method_78_code, 4, some .int)
theorem k_Md_passes : aw_K m_Md_passes 1 := ⟨aw_in 1700 (by decide +kernel) rfl, aw_in 16 (by decide +kernel) rfl, ⟨by decide, by decide, by decide +kernel⟩, by decide, by decide +kernel⟩
theorem d_Md_passes_0 : decode m_Md_passes.2.1 0 = .ok (.aload_n 0, 1) := by decide +kernel
theorem d_Md_passes_1 : decode m_Md_passes.2.1 1 = .ok (.iload_n 1, 1) := by decide +kernel
theorem d_Md_passes_2 : decode m_Md_passes.2.1 2 = .ok (.invokevirtual 349, 3) := by decide +kernel
theorem d_Md_passes_5 : decode m_Md_passes.2.1 5 = .ok (.ifCond .ne 9, 3) := by decide +kernel
theorem d_Md_passes_14 : decode m_Md_passes.2.1 14 = .ok (.iconst 0, 1) := by decide +kernel
theorem d_Md_passes_15 : decode m_Md_passes.2.1 15 = .ok (.istore_n 2, 1) := by decide +kernel
theorem d_Md_passes_16 : decode m_Md_passes.2.1 16 = .ok (.iconst 0, 1) := by decide +kernel
theorem d_Md_passes_17 : decode m_Md_passes.2.1 17 = .ok (.istore_n 3, 1) := by decide +kernel
theorem d_Md_passes_8 : decode m_Md_passes.2.1 8 = .ok (.aload_n 0, 1) := by decide +kernel
theorem d_Md_passes_9 : decode m_Md_passes.2.1 9 = .ok (.iconst 1, 1) := by decide +kernel
theorem d_Md_passes_10 : decode m_Md_passes.2.1 10 = .ok (.invokevirtual 118, 3) := by decide +kernel
theorem d_Md_passes_13 : decode m_Md_passes.2.1 13 = .ok (.ireturn, 1) := by decide +kernel
theorem d_Md_passes_18 : decode m_Md_passes.2.1 18 = .ok (.iload_n 3, 1) := by decide +kernel
theorem d_Md_passes_19 : decode m_Md_passes.2.1 19 = .ok (.aload_n 0, 1) := by decide +kernel
theorem d_Md_passes_20 : decode m_Md_passes.2.1 20 = .ok (.getfield 7, 3) := by decide +kernel
theorem d_Md_passes_23 : decode m_Md_passes.2.1 23 = .ok (.iconst 3, 1) := by decide +kernel
theorem d_Md_passes_24 : decode m_Md_passes.2.1 24 = .ok (.iaload, 1) := by decide +kernel
theorem d_Md_passes_25 : decode m_Md_passes.2.1 25 = .ok (.if_icmp .ge 27, 3) := by decide +kernel
theorem d_Md_passes_52 : decode m_Md_passes.2.1 52 = .ok (.aload_n 0, 1) := by decide +kernel
theorem d_Md_passes_53 : decode m_Md_passes.2.1 53 = .ok (.iload_n 2, 1) := by decide +kernel
theorem d_Md_passes_54 : decode m_Md_passes.2.1 54 = .ok (.invokevirtual 122, 3) := by decide +kernel
theorem d_Md_passes_57 : decode m_Md_passes.2.1 57 = .ok (.ireturn, 1) := by decide +kernel
theorem d_Md_passes_28 : decode m_Md_passes.2.1 28 = .ok (.iload_n 2, 1) := by decide +kernel
theorem d_Md_passes_29 : decode m_Md_passes.2.1 29 = .ok (.aload_n 0, 1) := by decide +kernel
theorem d_Md_passes_30 : decode m_Md_passes.2.1 30 = .ok (.iload_n 3, 1) := by decide +kernel
theorem d_Md_passes_31 : decode m_Md_passes.2.1 31 = .ok (.iconst 0, 1) := by decide +kernel
theorem d_Md_passes_32 : decode m_Md_passes.2.1 32 = .ok (.invokevirtual 316, 3) := by decide +kernel
theorem d_Md_passes_35 : decode m_Md_passes.2.1 35 = .ok (.iload_n 1, 1) := by decide +kernel
theorem d_Md_passes_36 : decode m_Md_passes.2.1 36 = .ok (.if_icmp .ne 7, 3) := by decide +kernel
theorem d_Md_passes_43 : decode m_Md_passes.2.1 43 = .ok (.iconst 0, 1) := by decide +kernel
theorem d_Md_passes_44 : decode m_Md_passes.2.1 44 = .ok (.iadd, 1) := by decide +kernel
theorem d_Md_passes_45 : decode m_Md_passes.2.1 45 = .ok (.istore_n 2, 1) := by decide +kernel
theorem d_Md_passes_46 : decode m_Md_passes.2.1 46 = .ok (.iinc 3 1, 3) := by decide +kernel
theorem d_Md_passes_49 : decode m_Md_passes.2.1 49 = .ok (.goto (-31), 3) := by decide +kernel
theorem d_Md_passes_39 : decode m_Md_passes.2.1 39 = .ok (.iconst 1, 1) := by decide +kernel
theorem d_Md_passes_40 : decode m_Md_passes.2.1 40 = .ok (.goto 4, 3) := by decide +kernel
abbrev m_Md_pass : aw_MI := (⟨"MaypoleGreenModel", "pass", "(IZ)I"⟩, prog_14_method_80_code, 3, some .int)
theorem k_Md_pass : aw_K m_Md_pass 2 := ⟨aw_in 1704 (by decide +kernel) rfl, aw_in 16 (by decide +kernel) rfl, ⟨by decide, by decide, by decide +kernel⟩, by decide, by decide +kernel⟩
theorem d_Md_pass_0 : decode m_Md_pass.2.1 0 = .ok (.aload_n 0, 1) := by decide +kernel
theorem d_Md_pass_1 : decode m_Md_pass.2.1 1 = .ok (.iload_n 1, 1) := by decide +kernel
theorem d_Md_pass_2 : decode m_Md_pass.2.1 2 = .ok (.invokevirtual 349, 3) := by decide +kernel
theorem d_Md_pass_5 : decode m_Md_pass.2.1 5 = .ok (.ifCond .ne 9, 3) := by decide +kernel
theorem d_Md_pass_14 : decode m_Md_pass.2.1 14 = .ok (.aload_n 0, 1) := by decide +kernel
theorem d_Md_pass_15 : decode m_Md_pass.2.1 15 = .ok (.iload_n 1, 1) := by decide +kernel
theorem d_Md_pass_16 : decode m_Md_pass.2.1 16 = .ok (.iload_n 2, 1) := by decide +kernel
theorem d_Md_pass_17 : decode m_Md_pass.2.1 17 = .ok (.ifCond .eq 7, 3) := by decide +kernel
theorem d_Md_pass_24 : decode m_Md_pass.2.1 24 = .ok (.iconst 0, 1) := by decide +kernel
theorem d_Md_pass_25 : decode m_Md_pass.2.1 25 = .ok (.invokevirtual 352, 3) := by decide +kernel
abbrev m_Md_danced : aw_MI := (⟨"MaypoleGreenModel", "danced", "(II)I"⟩, prog_14_method_79_code, 4, some .int)
theorem lk_Md_352 : Cond.methodLink "MaypoleGreenModel" 352 m_Md_danced.1 ∈ aw_T := aw_in 1705 (by decide +kernel) rfl
theorem k_Md_danced : aw_K m_Md_danced 2 := ⟨aw_in 1708 (by decide +kernel) rfl, aw_in 16 (by decide +kernel) rfl, ⟨by decide, by decide, by decide +kernel⟩, by decide, by decide +kernel⟩
theorem in_Md_danced : Cond.instanceMethod m_Md_danced.1 ∈ aw_T := aw_in 1707 (by decide +kernel) rfl
theorem se_Md_danced : Cond.selects m_Md_danced.1.cls m_Md_danced.1 m_Md_danced.1 ∈ aw_T := aw_inP 105 (by decide +kernel) rfl
theorem d_Md_pass_28 : decode m_Md_pass.2.1 28 = .ok (.ifCond .ne 12, 3) := by decide +kernel
theorem d_Md_pass_40 : decode m_Md_pass.2.1 40 = .ok (.aload_n 0, 1) := by decide +kernel
theorem d_Md_pass_41 : decode m_Md_pass.2.1 41 = .ok (.aload_n 0, 1) := by decide +kernel
theorem d_Md_pass_42 : decode m_Md_pass.2.1 42 = .ok (.getfield 7, 3) := by decide +kernel
theorem d_Md_pass_45 : decode m_Md_pass.2.1 45 = .ok (.iconst 3, 1) := by decide +kernel
theorem d_Md_pass_46 : decode m_Md_pass.2.1 46 = .ok (.iaload, 1) := by decide +kernel
theorem d_Md_pass_47 : decode m_Md_pass.2.1 47 = .ok (.invokevirtual 122, 3) := by decide +kernel
theorem d_Md_pass_50 : decode m_Md_pass.2.1 50 = .ok (.ireturn, 1) := by decide +kernel
theorem d_Md_pass_31 : decode m_Md_pass.2.1 31 = .ok (.aload_n 0, 1) := by decide +kernel
theorem d_Md_pass_32 : decode m_Md_pass.2.1 32 = .ok (.bipush 7, 2) := by decide +kernel
theorem d_Md_pass_34 : decode m_Md_pass.2.1 34 = .ok (.invokevirtual 118, 3) := by decide +kernel
theorem d_Md_pass_37 : decode m_Md_pass.2.1 37 = .ok (.goto 13, 3) := by decide +kernel
theorem d_Md_pass_20 : decode m_Md_pass.2.1 20 = .ok (.iconst 1, 1) := by decide +kernel
theorem d_Md_pass_21 : decode m_Md_pass.2.1 21 = .ok (.goto 4, 3) := by decide +kernel
theorem d_Md_pass_8 : decode m_Md_pass.2.1 8 = .ok (.aload_n 0, 1) := by decide +kernel
theorem d_Md_pass_9 : decode m_Md_pass.2.1 9 = .ok (.iconst 1, 1) := by decide +kernel
theorem d_Md_pass_10 : decode m_Md_pass.2.1 10 = .ok (.invokevirtual 118, 3) := by decide +kernel
theorem d_Md_pass_13 : decode m_Md_pass.2.1 13 = .ok (.ireturn, 1) := by decide +kernel
theorem d_Md_danced_0 : decode m_Md_danced.2.1 0 = .ok (.aload_n 0, 1) := by decide +kernel
theorem d_Md_danced_1 : decode m_Md_danced.2.1 1 = .ok (.iconst 0, 1) := by decide +kernel
theorem d_Md_danced_2 : decode m_Md_danced.2.1 2 = .ok (.iload_n 1, 1) := by decide +kernel
theorem d_Md_danced_3 : decode m_Md_danced.2.1 3 = .ok (.iload_n 2, 1) := by decide +kernel
theorem d_Md_danced_4 : decode m_Md_danced.2.1 4 = .ok (.invokevirtual 269, 3) := by decide +kernel
theorem d_Md_danced_7 : decode m_Md_danced.2.1 7 = .ok (.istore_n 3, 1) := by decide +kernel
theorem d_Md_danced_8 : decode m_Md_danced.2.1 8 = .ok (.iload_n 3, 1) := by decide +kernel
theorem d_Md_danced_9 : decode m_Md_danced.2.1 9 = .ok (.ifCond .le 13, 3) := by decide +kernel
theorem d_Md_danced_22 : decode m_Md_danced.2.1 22 = .ok (.iload_n 3, 1) := by decide +kernel
theorem d_Md_danced_23 : decode m_Md_danced.2.1 23 = .ok (.ireturn, 1) := by decide +kernel
theorem d_Md_danced_12 : decode m_Md_danced.2.1 12 = .ok (.aload_n 0, 1) := by decide +kernel
theorem d_Md_danced_13 : decode m_Md_danced.2.1 13 = .ok (.getfield 7, 3) := by decide +kernel
theorem d_Md_danced_16 : decode m_Md_danced.2.1 16 = .ok (.iconst 4, 1) := by decide +kernel
theorem d_Md_danced_17 : decode m_Md_danced.2.1 17 = .ok (.dup2, 1) := by decide +kernel
theorem d_Md_danced_18 : decode m_Md_danced.2.1 18 = .ok (.iaload, 1) := by decide +kernel
theorem d_Md_danced_19 : decode m_Md_danced.2.1 19 = .ok (.iconst 1, 1) := by decide +kernel
theorem d_Md_danced_20 : decode m_Md_danced.2.1 20 = .ok (.iadd, 1) := by decide +kernel
theorem d_Md_danced_21 : decode m_Md_danced.2.1 21 = .ok (.iastore, 1) := by decide +kernel
abbrev m_Md_back : aw_MI := (⟨"MaypoleGreenModel", "back", "()I"⟩, prog_14_method_82_code, 1, some .int)
theorem k_Md_back : aw_K m_Md_back 0 := ⟨aw_in 1712 (by decide +kernel) rfl, aw_in 16 (by decide +kernel) rfl, ⟨by decide, by decide, by decide +kernel⟩, by decide, by decide +kernel⟩
theorem d_Md_back_0 : decode m_Md_back.2.1 0 = .ok (.aload_n 0, 1) := by decide +kernel
theorem d_Md_back_1 : decode m_Md_back.2.1 1 = .ok (.invokevirtual 355, 3) := by decide +kernel
abbrev m_Md_undoes : aw_MI := (⟨"MaypoleGreenModel", "undoes", "()Z"⟩, prog_14_method_81_code, 2, some .boolean)
theorem lk_Md_355 : Cond.methodLink "MaypoleGreenModel" 355 m_Md_undoes.1 ∈ aw_T := aw_in 1713 (by decide +kernel) rfl
theorem k_Md_undoes : aw_K m_Md_undoes 0 := ⟨aw_in 1716 (by decide +kernel) rfl, aw_in 16 (by decide +kernel) rfl, ⟨by decide, by decide, by decide +kernel⟩, by decide, by decide +kernel⟩
theorem in_Md_undoes : Cond.instanceMethod m_Md_undoes.1 ∈ aw_T := aw_in 1715 (by decide +kernel) rfl
theorem se_Md_undoes : Cond.selects m_Md_undoes.1.cls m_Md_undoes.1 m_Md_undoes.1 ∈ aw_T := aw_inP 106 (by decide +kernel) rfl
theorem d_Md_back_4 : decode m_Md_back.2.1 4 = .ok (.ifCond .eq 16, 3) := by decide +kernel
theorem d_Md_back_20 : decode m_Md_back.2.1 20 = .ok (.aload_n 0, 1) := by decide +kernel
theorem d_Md_back_21 : decode m_Md_back.2.1 21 = .ok (.bipush 7, 2) := by decide +kernel
theorem d_Md_back_23 : decode m_Md_back.2.1 23 = .ok (.invokevirtual 118, 3) := by decide +kernel
theorem d_Md_back_26 : decode m_Md_back.2.1 26 = .ok (.ireturn, 1) := by decide +kernel
theorem d_Md_back_7 : decode m_Md_back.2.1 7 = .ok (.aload_n 0, 1) := by decide +kernel
theorem d_Md_back_8 : decode m_Md_back.2.1 8 = .ok (.aload_n 0, 1) := by decide +kernel
theorem d_Md_back_9 : decode m_Md_back.2.1 9 = .ok (.getfield 7, 3) := by decide +kernel
theorem d_Md_back_12 : decode m_Md_back.2.1 12 = .ok (.iconst 3, 1) := by decide +kernel
theorem d_Md_back_13 : decode m_Md_back.2.1 13 = .ok (.iaload, 1) := by decide +kernel
theorem d_Md_back_14 : decode m_Md_back.2.1 14 = .ok (.invokevirtual 122, 3) := by decide +kernel
theorem d_Md_back_17 : decode m_Md_back.2.1 17 = .ok (.goto 9, 3) := by decide +kernel
theorem d_Md_undoes_0 : decode m_Md_undoes.2.1 0 = .ok (.aload_n 0, 1) := by decide +kernel
theorem d_Md_undoes_1 : decode m_Md_undoes.2.1 1 = .ok (.getfield 7, 3) := by decide +kernel
theorem d_Md_undoes_4 : decode m_Md_undoes.2.1 4 = .ok (.iconst 3, 1) := by decide +kernel
theorem d_Md_undoes_5 : decode m_Md_undoes.2.1 5 = .ok (.iaload, 1) := by decide +kernel
theorem d_Md_undoes_6 : decode m_Md_undoes.2.1 6 = .ok (.iconst 1, 1) := by decide +kernel
theorem d_Md_undoes_7 : decode m_Md_undoes.2.1 7 = .ok (.isub, 1) := by decide +kernel
theorem d_Md_undoes_8 : decode m_Md_undoes.2.1 8 = .ok (.istore_n 1, 1) := by decide +kernel
theorem d_Md_undoes_9 : decode m_Md_undoes.2.1 9 = .ok (.iload_n 1, 1) := by decide +kernel
theorem d_Md_undoes_10 : decode m_Md_undoes.2.1 10 = .ok (.ifCond .ge 5, 3) := by decide +kernel
theorem d_Md_undoes_15 : decode m_Md_undoes.2.1 15 = .ok (.aload_n 0, 1) := by decide +kernel
theorem d_Md_undoes_16 : decode m_Md_undoes.2.1 16 = .ok (.iconst 0, 1) := by decide +kernel
theorem d_Md_undoes_17 : decode m_Md_undoes.2.1 17 = .ok (.aload_n 0, 1) := by decide +kernel
theorem d_Md_undoes_18 : decode m_Md_undoes.2.1 18 = .ok (.iload_n 1, 1) := by decide +kernel
theorem d_Md_undoes_19 : decode m_Md_undoes.2.1 19 = .ok (.iconst 0, 1) := by decide +kernel
theorem d_Md_undoes_20 : decode m_Md_undoes.2.1 20 = .ok (.invokevirtual 316, 3) := by decide +kernel
theorem d_Md_undoes_23 : decode m_Md_undoes.2.1 23 = .ok (.invokevirtual 228, 3) := by decide +kernel
theorem d_Md_undoes_26 : decode m_Md_undoes.2.1 26 = .ok (.aload_n 0, 1) := by decide +kernel
theorem d_Md_undoes_27 : decode m_Md_undoes.2.1 27 = .ok (.iconst 0, 1) := by decide +kernel
theorem d_Md_undoes_28 : decode m_Md_undoes.2.1 28 = .ok (.iload_n 1, 1) := by decide +kernel
theorem d_Md_undoes_29 : decode m_Md_undoes.2.1 29 = .ok (.invokevirtual 232, 3) := by decide +kernel
theorem d_Md_undoes_32 : decode m_Md_undoes.2.1 32 = .ok (.aload_n 0, 1) := by decide +kernel
theorem d_Md_undoes_33 : decode m_Md_undoes.2.1 33 = .ok (.getfield 7, 3) := by decide +kernel
theorem d_Md_undoes_36 : decode m_Md_undoes.2.1 36 = .ok (.iconst 4, 1) := by decide +kernel
theorem d_Md_undoes_37 : decode m_Md_undoes.2.1 37 = .ok (.dup2, 1) := by decide +kernel
theorem d_Md_undoes_38 : decode m_Md_undoes.2.1 38 = .ok (.iaload, 1) := by decide +kernel
theorem d_Md_undoes_39 : decode m_Md_undoes.2.1 39 = .ok (.iconst 1, 1) := by decide +kernel
theorem d_Md_undoes_40 : decode m_Md_undoes.2.1 40 = .ok (.iadd, 1) := by decide +kernel
theorem d_Md_undoes_41 : decode m_Md_undoes.2.1 41 = .ok (.iastore, 1) := by decide +kernel
theorem d_Md_undoes_42 : decode m_Md_undoes.2.1 42 = .ok (.iconst 1, 1) := by decide +kernel
theorem d_Md_undoes_43 : decode m_Md_undoes.2.1 43 = .ok (.ireturn, 1) := by decide +kernel
theorem d_Md_undoes_13 : decode m_Md_undoes.2.1 13 = .ok (.iconst 0, 1) := by decide +kernel
theorem d_Md_undoes_14 : decode m_Md_undoes.2.1 14 = .ok (.ireturn, 1) := by decide +kernel
abbrev m_Md_weave : aw_MI := (⟨"MaypoleGreenModel", "weave", "()I"⟩, prog_14_method_85_code, 2, some .int)
theorem k_Md_weave : aw_K m_Md_weave 0 := ⟨aw_in 1720 (by decide +kernel) rfl, aw_in 16 (by decide +kernel) rfl, ⟨by decide, by decide, by decide +kernel⟩, by decide, by decide +kernel⟩
theorem d_Md_weave_0 : decode m_Md_weave.2.1 0 = .ok (.aload_n 0, 1) := by decide +kernel
theorem d_Md_weave_1 : decode m_Md_weave.2.1 1 = .ok (.invokevirtual 367, 3) := by decide +kernel
abbrev m_Md_weaving : aw_MI := (⟨"MaypoleGreenModel", "weaving", "()I"⟩, prog_14_method_84_code, 4, some .int)
theorem lk_Md_367 : Cond.methodLink "MaypoleGreenModel" 367 m_Md_weaving.1 ∈ aw_T := aw_in 1721 (by decide +kernel) rfl
theorem k_Md_weaving : aw_K m_Md_weaving 0 := ⟨aw_in 1724 (by decide +kernel) rfl, aw_in 16 (by decide +kernel) rfl, ⟨by decide, by decide, by decide +kernel⟩, by decide, by decide +kernel⟩
theorem in_Md_weaving : Cond.instanceMethod m_Md_weaving.1 ∈ aw_T := aw_in 1723 (by decide +kernel) rfl
theorem se_Md_weaving : Cond.selects m_Md_weaving.1.cls m_Md_weaving.1 m_Md_weaving.1 ∈ aw_T := aw_inP 107 (by decide +kernel) rfl
theorem d_Md_weave_4 : decode m_Md_weave.2.1 4 = .ok (.istore_n 1, 1) := by decide +kernel
theorem d_Md_weave_5 : decode m_Md_weave.2.1 5 = .ok (.iload_n 1, 1) := by decide +kernel
theorem d_Md_weave_6 : decode m_Md_weave.2.1 6 = .ok (.ifCond .ne 12, 3) := by decide +kernel
theorem d_Md_weave_18 : decode m_Md_weave.2.1 18 = .ok (.aload_n 0, 1) := by decide +kernel
theorem d_Md_weave_19 : decode m_Md_weave.2.1 19 = .ok (.iload_n 1, 1) := by decide +kernel
theorem d_Md_weave_20 : decode m_Md_weave.2.1 20 = .ok (.invokevirtual 122, 3) := by decide +kernel
theorem d_Md_weave_23 : decode m_Md_weave.2.1 23 = .ok (.ireturn, 1) := by decide +kernel
theorem d_Md_weave_9 : decode m_Md_weave.2.1 9 = .ok (.aload_n 0, 1) := by decide +kernel
theorem d_Md_weave_10 : decode m_Md_weave.2.1 10 = .ok (.bipush 7, 2) := by decide +kernel
theorem d_Md_weave_12 : decode m_Md_weave.2.1 12 = .ok (.invokevirtual 118, 3) := by decide +kernel
theorem d_Md_weave_15 : decode m_Md_weave.2.1 15 = .ok (.goto 8, 3) := by decide +kernel
theorem d_Md_weaving_0 : decode m_Md_weaving.2.1 0 = .ok (.aload_n 0, 1) := by decide +kernel
theorem d_Md_weaving_1 : decode m_Md_weaving.2.1 1 = .ok (.iconst 0, 1) := by decide +kernel
theorem d_Md_weaving_2 : decode m_Md_weaving.2.1 2 = .ok (.invokevirtual 260, 3) := by decide +kernel
theorem d_Md_weaving_5 : decode m_Md_weaving.2.1 5 = .ok (.istore_n 1, 1) := by decide +kernel
theorem d_Md_weaving_6 : decode m_Md_weaving.2.1 6 = .ok (.aload_n 0, 1) := by decide +kernel
theorem d_Md_weaving_7 : decode m_Md_weaving.2.1 7 = .ok (.iconst 0, 1) := by decide +kernel
theorem d_Md_weaving_8 : decode m_Md_weaving.2.1 8 = .ok (.putfield 358, 3) := by decide +kernel
theorem f_Md_358 : aw_F "MaypoleGreenModel" 358 11 26 false := ⟨cR11, cT11, 52, fun k => cY11.getD k .int, rfl, ci11, cy11, cn11, rfl, by decide, aw_in 1280 (by decide +kernel) rfl, rfl, rfl, rfl⟩
theorem d_Md_weaving_11 : decode m_Md_weaving.2.1 11 = .ok (.aload_n 0, 1) := by decide +kernel
theorem d_Md_weaving_12 : decode m_Md_weaving.2.1 12 = .ok (.iconst 0, 1) := by decide +kernel
theorem d_Md_weaving_13 : decode m_Md_weaving.2.1 13 = .ok (.putfield 361, 3) := by decide +kernel
theorem f_Md_361 : aw_F "MaypoleGreenModel" 361 11 27 false := ⟨cR11, cT11, 52, fun k => cY11.getD k .int, rfl, ci11, cy11, cn11, rfl, by decide, aw_in 1281 (by decide +kernel) rfl, rfl, rfl, rfl⟩
theorem d_Md_weaving_16 : decode m_Md_weaving.2.1 16 = .ok (.iconst 0, 1) := by decide +kernel
theorem d_Md_weaving_17 : decode m_Md_weaving.2.1 17 = .ok (.istore_n 2, 1) := by decide +kernel
theorem d_Md_weaving_18 : decode m_Md_weaving.2.1 18 = .ok (.iload_n 2, 1) := by decide +kernel
theorem d_Md_weaving_19 : decode m_Md_weaving.2.1 19 = .ok (.iload_n 1, 1) := by decide +kernel
theorem d_Md_weaving_20 : decode m_Md_weaving.2.1 20 = .ok (.if_icmp .ge 46, 3) := by decide +kernel
theorem d_Md_weaving_66 : decode m_Md_weaving.2.1 66 = .ok (.iconst 1, 1) := by decide +kernel
theorem d_Md_weaving_67 : decode m_Md_weaving.2.1 67 = .ok (.istore_n 2, 1) := by decide +kernel
theorem d_Md_weaving_23 : decode m_Md_weaving.2.1 23 = .ok (.iload_n 2, 1) := by decide +kernel
theorem d_Md_weaving_24 : decode m_Md_weaving.2.1 24 = .ok (.ifCond .le 24, 3) := by decide +kernel
theorem d_Md_weaving_48 : decode m_Md_weaving.2.1 48 = .ok (.iconst 0, 1) := by decide +kernel
theorem d_Md_weaving_49 : decode m_Md_weaving.2.1 49 = .ok (.istore_n 3, 1) := by decide +kernel
theorem d_Md_weaving_50 : decode m_Md_weaving.2.1 50 = .ok (.iload_n 3, 1) := by decide +kernel
theorem d_Md_weaving_51 : decode m_Md_weaving.2.1 51 = .ok (.ifCond .ne 9, 3) := by decide +kernel
theorem d_Md_weaving_54 : decode m_Md_weaving.2.1 54 = .ok (.aload_n 0, 1) := by decide +kernel
theorem d_Md_weaving_55 : decode m_Md_weaving.2.1 55 = .ok (.iload_n 2, 1) := by decide +kernel
theorem d_Md_weaving_56 : decode m_Md_weaving.2.1 56 = .ok (.iconst 1, 1) := by decide +kernel
theorem d_Md_weaving_57 : decode m_Md_weaving.2.1 57 = .ok (.invokevirtual 364, 3) := by decide +kernel
abbrev m_Md_weaves1 : aw_MI := (⟨"MaypoleGreenModel", "weaves1", "(II)V"⟩, prog_14_method_83_code, 4, none)
theorem lk_Md_364 : Cond.methodLink "MaypoleGreenModel" 364 m_Md_weaves1.1 ∈ aw_T := aw_in 1725 (by decide +kernel) rfl
theorem k_Md_weaves1 : aw_K m_Md_weaves1 2 := ⟨aw_in 1728 (by decide +kernel) rfl, aw_in 16 (by decide +kernel) rfl, ⟨by decide, by decide, by decide +kernel⟩, by decide, by decide +kernel⟩
theorem in_Md_weaves1 : Cond.instanceMethod m_Md_weaves1.1 ∈ aw_T := aw_in 1727 (by decide +kernel) rfl
theorem se_Md_weaves1 : Cond.selects m_Md_weaves1.1.cls m_Md_weaves1.1 m_Md_weaves1.1 ∈ aw_T := aw_inP 108 (by decide +kernel) rfl
theorem d_Md_weaving_60 : decode m_Md_weaving.2.1 60 = .ok (.iinc 2 2, 3) := by decide +kernel
theorem d_Md_weaving_63 : decode m_Md_weaving.2.1 63 = .ok (.goto (-45), 3) := by decide +kernel
theorem d_Md_weaving_27 : decode m_Md_weaving.2.1 27 = .ok (.iload_n 2, 1) := by decide +kernel
theorem d_Md_weaving_28 : decode m_Md_weaving.2.1 28 = .ok (.iconst 2, 1) := by decide +kernel
theorem d_Md_weaving_29 : decode m_Md_weaving.2.1 29 = .ok (.iadd, 1) := by decide +kernel
theorem d_Md_weaving_30 : decode m_Md_weaving.2.1 30 = .ok (.iload_n 1, 1) := by decide +kernel
theorem d_Md_weaving_31 : decode m_Md_weaving.2.1 31 = .ok (.if_icmp .lt 17, 3) := by decide +kernel
theorem d_Md_weaving_34 : decode m_Md_weaving.2.1 34 = .ok (.aload_n 0, 1) := by decide +kernel
theorem d_Md_weaving_35 : decode m_Md_weaving.2.1 35 = .ok (.iconst 0, 1) := by decide +kernel
theorem d_Md_weaving_36 : decode m_Md_weaving.2.1 36 = .ok (.iload_n 2, 1) := by decide +kernel
theorem d_Md_weaving_37 : decode m_Md_weaving.2.1 37 = .ok (.iconst 0, 1) := by decide +kernel
theorem d_Md_weaving_38 : decode m_Md_weaving.2.1 38 = .ok (.invokevirtual 217, 3) := by decide +kernel
theorem d_Md_weaving_41 : decode m_Md_weaving.2.1 41 = .ok (.ifCond .eq 7, 3) := by decide +kernel
theorem d_Md_weaving_44 : decode m_Md_weaving.2.1 44 = .ok (.iconst 1, 1) := by decide +kernel
theorem d_Md_weaving_45 : decode m_Md_weaving.2.1 45 = .ok (.goto 4, 3) := by decide +kernel
theorem d_Md_weaving_68 : decode m_Md_weaving.2.1 68 = .ok (.iload_n 2, 1) := by decide +kernel
theorem d_Md_weaving_69 : decode m_Md_weaving.2.1 69 = .ok (.iload_n 1, 1) := by decide +kernel
theorem d_Md_weaving_70 : decode m_Md_weaving.2.1 70 = .ok (.if_icmp .ge 15, 3) := by decide +kernel
theorem d_Md_weaving_85 : decode m_Md_weaving.2.1 85 = .ok (.aload_n 0, 1) := by decide +kernel
theorem d_Md_weaving_86 : decode m_Md_weaving.2.1 86 = .ok (.getfield 358, 3) := by decide +kernel
theorem d_Md_weaving_89 : decode m_Md_weaving.2.1 89 = .ok (.aload_n 0, 1) := by decide +kernel
theorem d_Md_weaving_90 : decode m_Md_weaving.2.1 90 = .ok (.getfield 361, 3) := by decide +kernel
theorem d_Md_weaving_93 : decode m_Md_weaving.2.1 93 = .ok (.iadd, 1) := by decide +kernel
theorem d_Md_weaving_94 : decode m_Md_weaving.2.1 94 = .ok (.ireturn, 1) := by decide +kernel
theorem d_Md_weaving_73 : decode m_Md_weaving.2.1 73 = .ok (.aload_n 0, 1) := by decide +kernel
theorem d_Md_weaving_74 : decode m_Md_weaving.2.1 74 = .ok (.iload_n 2, 1) := by decide +kernel
theorem d_Md_weaving_75 : decode m_Md_weaving.2.1 75 = .ok (.iconst 0, 1) := by decide +kernel
theorem d_Md_weaving_76 : decode m_Md_weaving.2.1 76 = .ok (.invokevirtual 364, 3) := by decide +kernel
theorem d_Md_weaving_79 : decode m_Md_weaving.2.1 79 = .ok (.iinc 2 2, 3) := by decide +kernel
theorem d_Md_weaving_82 : decode m_Md_weaving.2.1 82 = .ok (.goto (-14), 3) := by decide +kernel
