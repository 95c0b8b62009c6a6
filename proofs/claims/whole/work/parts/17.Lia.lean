abbrev m_Li_begin : aw_MI := (⟨"MaypoleGreen$Life", "begin", "(LMaypoleGreen$Green;LMaypoleGreen$Feasts;I)V"⟩, prog_6_method_2_code, 4, none)
theorem k_Li_begin : aw_K m_Li_begin 3 := ⟨aw_in 1187 (by decide +kernel) rfl, aw_in 12 (by decide +kernel) rfl, ⟨by decide, by decide, by decide +kernel⟩, by decide, by decide +kernel⟩
theorem d_Li_begin_0 : decode m_Li_begin.2.1 0 = .ok (.aload_n 0, 1) := by decide +kernel
theorem d_Li_begin_1 : decode m_Li_begin.2.1 1 = .ok (.aload_n 1, 1) := by decide +kernel
theorem d_Li_begin_2 : decode m_Li_begin.2.1 2 = .ok (.putfield 9, 3) := by decide +kernel
theorem f_Li_9 : aw_F "MaypoleGreen$Life" 9 7 3 false := ⟨cR7, cT7, 7, fun k => cY7.getD k .int, rfl, ci7, cy7, cn7, rfl, by decide, aw_in 332 (by decide +kernel) rfl, rfl, rfl, rfl⟩
theorem d_Li_begin_5 : decode m_Li_begin.2.1 5 = .ok (.aload_n 0, 1) := by decide +kernel
theorem d_Li_begin_6 : decode m_Li_begin.2.1 6 = .ok (.aload_n 2, 1) := by decide +kernel
theorem d_Li_begin_7 : decode m_Li_begin.2.1 7 = .ok (.putfield 15, 3) := by decide +kernel
theorem f_Li_15 : aw_F "MaypoleGreen$Life" 15 7 4 false := ⟨cR7, cT7, 7, fun k => cY7.getD k .int, rfl, ci7, cy7, cn7, rfl, by decide, aw_in 333 (by decide +kernel) rfl, rfl, rfl, rfl⟩
theorem d_Li_begin_10 : decode m_Li_begin.2.1 10 = .ok (.aload_n 0, 1) := by decide +kernel
theorem d_Li_begin_11 : decode m_Li_begin.2.1 11 = .ok (.iload_n 3, 1) := by decide +kernel
theorem d_Li_begin_12 : decode m_Li_begin.2.1 12 = .ok (.putfield 19, 3) := by decide +kernel
theorem f_Li_19 : aw_F "MaypoleGreen$Life" 19 7 5 false := ⟨cR7, cT7, 7, fun k => cY7.getD k .int, rfl, ci7, cy7, cn7, rfl, by decide, aw_in 334 (by decide +kernel) rfl, rfl, rfl, rfl⟩
theorem d_Li_begin_15 : decode m_Li_begin.2.1 15 = .ok (.aload_n 0, 1) := by decide +kernel
theorem d_Li_begin_16 : decode m_Li_begin.2.1 16 = .ok (.iconst 0, 1) := by decide +kernel
theorem d_Li_begin_17 : decode m_Li_begin.2.1 17 = .ok (.putfield 23, 3) := by decide +kernel
theorem f_Li_23 : aw_F "MaypoleGreen$Life" 23 7 0 false := ⟨cR7, cT7, 7, fun k => cY7.getD k .int, rfl, ci7, cy7, cn7, rfl, by decide, aw_in 326 (by decide +kernel) rfl, rfl, rfl, rfl⟩
theorem d_Li_begin_20 : decode m_Li_begin.2.1 20 = .ok (.aload_n 0, 1) := by decide +kernel
theorem d_Li_begin_21 : decode m_Li_begin.2.1 21 = .ok (.iconst 0, 1) := by decide +kernel
theorem d_Li_begin_22 : decode m_Li_begin.2.1 22 = .ok (.putfield 26, 3) := by decide +kernel
theorem f_Li_26 : aw_F "MaypoleGreen$Life" 26 7 1 false := ⟨cR7, cT7, 7, fun k => cY7.getD k .int, rfl, ci7, cy7, cn7, rfl, by decide, aw_in 328 (by decide +kernel) rfl, rfl, rfl, rfl⟩
theorem d_Li_begin_25 : decode m_Li_begin.2.1 25 = .ok (.aload_n 0, 1) := by decide +kernel
theorem d_Li_begin_26 : decode m_Li_begin.2.1 26 = .ok (.iconst 0, 1) := by decide +kernel
theorem d_Li_begin_27 : decode m_Li_begin.2.1 27 = .ok (.putfield 29, 3) := by decide +kernel
theorem f_Li_29 : aw_F "MaypoleGreen$Life" 29 7 2 false := ⟨cR7, cT7, 7, fun k => cY7.getD k .int, rfl, ci7, cy7, cn7, rfl, by decide, aw_in 330 (by decide +kernel) rfl, rfl, rfl, rfl⟩
theorem d_Li_begin_30 : decode m_Li_begin.2.1 30 = .ok (.aload_n 0, 1) := by decide +kernel
theorem d_Li_begin_31 : decode m_Li_begin.2.1 31 = .ok (.iconst 0, 1) := by decide +kernel
theorem d_Li_begin_32 : decode m_Li_begin.2.1 32 = .ok (.putfield 32, 3) := by decide +kernel
theorem f_Li_32 : aw_F "MaypoleGreen$Life" 32 7 6 false := ⟨cR7, cT7, 7, fun k => cY7.getD k .int, rfl, ci7, cy7, cn7, rfl, by decide, aw_in 335 (by decide +kernel) rfl, rfl, rfl, rfl⟩
theorem d_Li_begin_35 : decode m_Li_begin.2.1 35 = .ok (.return_, 1) := by decide +kernel
abbrev m_Li_doBlock : aw_MI := (⟨"MaypoleGreen$Life", "doBlock", "(III)V"⟩, prog_6_method_3_code, 5, none)
theorem k_Li_doBlock : aw_K m_Li_doBlock 3 := ⟨aw_in 1191 (by decide +kernel) rfl, aw_in 12 (by decide +kernel) rfl, ⟨by decide, by decide, by decide +kernel⟩, by decide, by decide +kernel⟩
theorem d_Li_doBlock_0 : decode m_Li_doBlock.2.1 0 = .ok (.iload_n 1, 1) := by decide +kernel
theorem d_Li_doBlock_1 : decode m_Li_doBlock.2.1 1 = .ok (.istore 4, 2) := by decide +kernel
theorem d_Li_doBlock_3 : decode m_Li_doBlock.2.1 3 = .ok (.iload 4, 2) := by decide +kernel
theorem d_Li_doBlock_5 : decode m_Li_doBlock.2.1 5 = .ok (.iload_n 2, 1) := by decide +kernel
theorem d_Li_doBlock_6 : decode m_Li_doBlock.2.1 6 = .ok (.if_icmp .ge 77, 3) := by decide +kernel
theorem d_Li_doBlock_83 : decode m_Li_doBlock.2.1 83 = .ok (.return_, 1) := by decide +kernel
theorem d_Li_doBlock_9 : decode m_Li_doBlock.2.1 9 = .ok (.aload_n 0, 1) := by decide +kernel
theorem d_Li_doBlock_10 : decode m_Li_doBlock.2.1 10 = .ok (.getfield 32, 3) := by decide +kernel
theorem d_Li_doBlock_13 : decode m_Li_doBlock.2.1 13 = .ok (.ifCond .ne 70, 3) := by decide +kernel
theorem d_Li_doBlock_16 : decode m_Li_doBlock.2.1 16 = .ok (.aload_n 0, 1) := by decide +kernel
theorem d_Li_doBlock_17 : decode m_Li_doBlock.2.1 17 = .ok (.getfield 23, 3) := by decide +kernel
theorem d_Li_doBlock_20 : decode m_Li_doBlock.2.1 20 = .ok (.sipush 300, 3) := by decide +kernel
theorem d_Li_doBlock_23 : decode m_Li_doBlock.2.1 23 = .ok (.if_icmp .ge 8, 3) := by decide +kernel
theorem d_Li_doBlock_31 : decode m_Li_doBlock.2.1 31 = .ok (.aload_n 0, 1) := by decide +kernel
theorem d_Li_doBlock_32 : decode m_Li_doBlock.2.1 32 = .ok (.iconst 1, 1) := by decide +kernel
theorem d_Li_doBlock_33 : decode m_Li_doBlock.2.1 33 = .ok (.putfield 29, 3) := by decide +kernel
theorem d_Li_doBlock_36 : decode m_Li_doBlock.2.1 36 = .ok (.aload_n 0, 1) := by decide +kernel
theorem d_Li_doBlock_37 : decode m_Li_doBlock.2.1 37 = .ok (.iconst 1, 1) := by decide +kernel
theorem d_Li_doBlock_38 : decode m_Li_doBlock.2.1 38 = .ok (.putfield 32, 3) := by decide +kernel
theorem d_Li_doBlock_41 : decode m_Li_doBlock.2.1 41 = .ok (.goto 20, 3) := by decide +kernel
theorem d_Li_doBlock_61 : decode m_Li_doBlock.2.1 61 = .ok (.iload 4, 2) := by decide +kernel
theorem d_Li_doBlock_63 : decode m_Li_doBlock.2.1 63 = .ok (.iconst 1, 1) := by decide +kernel
theorem d_Li_doBlock_64 : decode m_Li_doBlock.2.1 64 = .ok (.iadd, 1) := by decide +kernel
theorem d_Li_doBlock_65 : decode m_Li_doBlock.2.1 65 = .ok (.aload_n 0, 1) := by decide +kernel
theorem d_Li_doBlock_66 : decode m_Li_doBlock.2.1 66 = .ok (.getfield 15, 3) := by decide +kernel
theorem d_Li_doBlock_69 : decode m_Li_doBlock.2.1 69 = .ok (.getfield 40, 3) := by decide +kernel
theorem f_Li_40 : aw_F "MaypoleGreen$Life" 40 4 6 true := ⟨cR4, cT4, 7, fun k => cY4.getD k .int, rfl, ci4, cy4, cn4, rfl, by decide, aw_in 106 (by decide +kernel) rfl, rfl, rfl, rfl⟩
theorem d_Li_doBlock_72 : decode m_Li_doBlock.2.1 72 = .ok (.iload 4, 2) := by decide +kernel
theorem d_Li_doBlock_74 : decode m_Li_doBlock.2.1 74 = .ok (.iaload, 1) := by decide +kernel
theorem d_Li_doBlock_75 : decode m_Li_doBlock.2.1 75 = .ok (.invokestatic 46, 3) := by decide +kernel
theorem lk_Li_46 : Cond.methodLink "MaypoleGreen$Life" 46 m_Ma_max.1 ∈ aw_T := aw_in 1227 (by decide +kernel) rfl
theorem d_Li_doBlock_78 : decode m_Li_doBlock.2.1 78 = .ok (.istore 4, 2) := by decide +kernel
theorem d_Li_doBlock_80 : decode m_Li_doBlock.2.1 80 = .ok (.goto (-77), 3) := by decide +kernel
theorem d_Li_doBlock_26 : decode m_Li_doBlock.2.1 26 = .ok (.iload_n 3, 1) := by decide +kernel
theorem d_Li_doBlock_27 : decode m_Li_doBlock.2.1 27 = .ok (.iconst 3, 1) := by decide +kernel
theorem d_Li_doBlock_28 : decode m_Li_doBlock.2.1 28 = .ok (.if_icmp .le 16, 3) := by decide +kernel
theorem d_Li_doBlock_44 : decode m_Li_doBlock.2.1 44 = .ok (.aload_n 0, 1) := by decide +kernel
theorem d_Li_doBlock_45 : decode m_Li_doBlock.2.1 45 = .ok (.dup, 1) := by decide +kernel
theorem d_Li_doBlock_46 : decode m_Li_doBlock.2.1 46 = .ok (.getfield 23, 3) := by decide +kernel
theorem d_Li_doBlock_49 : decode m_Li_doBlock.2.1 49 = .ok (.iconst 1, 1) := by decide +kernel
theorem d_Li_doBlock_50 : decode m_Li_doBlock.2.1 50 = .ok (.iadd, 1) := by decide +kernel
theorem d_Li_doBlock_51 : decode m_Li_doBlock.2.1 51 = .ok (.putfield 23, 3) := by decide +kernel
theorem d_Li_doBlock_54 : decode m_Li_doBlock.2.1 54 = .ok (.aload_n 0, 1) := by decide +kernel
theorem d_Li_doBlock_55 : decode m_Li_doBlock.2.1 55 = .ok (.iload 4, 2) := by decide +kernel
theorem d_Li_doBlock_57 : decode m_Li_doBlock.2.1 57 = .ok (.iload_n 3, 1) := by decide +kernel
theorem d_Li_doBlock_58 : decode m_Li_doBlock.2.1 58 = .ok (.invokevirtual 36, 3) := by decide +kernel
abbrev m_Li_doStep : aw_MI := (⟨"MaypoleGreen$Life", "doStep", "(II)V"⟩, prog_6_method_4_code, 6, none)
theorem lk_Li_36 : Cond.methodLink "MaypoleGreen$Life" 36 m_Li_doStep.1 ∈ aw_T := aw_in 1192 (by decide +kernel) rfl
theorem k_Li_doStep : aw_K m_Li_doStep 2 := ⟨aw_in 1195 (by decide +kernel) rfl, aw_in 12 (by decide +kernel) rfl, ⟨by decide, by decide, by decide +kernel⟩, by decide, by decide +kernel⟩
theorem in_Li_doStep : Cond.instanceMethod m_Li_doStep.1 ∈ aw_T := aw_in 1194 (by decide +kernel) rfl
theorem se_Li_doStep : Cond.selects m_Li_doStep.1.cls m_Li_doStep.1 m_Li_doStep.1 ∈ aw_T := aw_inP 48 (by decide +kernel) rfl
theorem d_Li_doStep_0 : decode m_Li_doStep.2.1 0 = .ok (.aload_n 0, 1) := by decide +kernel
theorem d_Li_doStep_1 : decode m_Li_doStep.2.1 1 = .ok (.getfield 15, 3) := by decide +kernel
theorem d_Li_doStep_4 : decode m_Li_doStep.2.1 4 = .ok (.getfield 52, 3) := by decide +kernel
theorem f_Li_52 : aw_F "MaypoleGreen$Life" 52 4 4 true := ⟨cR4, cT4, 7, fun k => cY4.getD k .int, rfl, ci4, cy4, cn4, rfl, by decide, aw_in 100 (by decide +kernel) rfl, rfl, rfl, rfl⟩
theorem d_Li_doStep_7 : decode m_Li_doStep.2.1 7 = .ok (.iload_n 1, 1) := by decide +kernel
theorem d_Li_doStep_8 : decode m_Li_doStep.2.1 8 = .ok (.iaload, 1) := by decide +kernel
theorem d_Li_doStep_9 : decode m_Li_doStep.2.1 9 = .ok (.istore_n 3, 1) := by decide +kernel
theorem d_Li_doStep_10 : decode m_Li_doStep.2.1 10 = .ok (.aload_n 0, 1) := by decide +kernel
theorem d_Li_doStep_11 : decode m_Li_doStep.2.1 11 = .ok (.getfield 15, 3) := by decide +kernel
theorem d_Li_doStep_14 : decode m_Li_doStep.2.1 14 = .ok (.getfield 55, 3) := by decide +kernel
theorem f_Li_55 : aw_F "MaypoleGreen$Life" 55 4 5 true := ⟨cR4, cT4, 7, fun k => cY4.getD k .int, rfl, ci4, cy4, cn4, rfl, by decide, aw_in 103 (by decide +kernel) rfl, rfl, rfl, rfl⟩
theorem d_Li_doStep_17 : decode m_Li_doStep.2.1 17 = .ok (.iload_n 1, 1) := by decide +kernel
theorem d_Li_doStep_18 : decode m_Li_doStep.2.1 18 = .ok (.iaload, 1) := by decide +kernel
theorem d_Li_doStep_19 : decode m_Li_doStep.2.1 19 = .ok (.istore 4, 2) := by decide +kernel
theorem d_Li_doStep_21 : decode m_Li_doStep.2.1 21 = .ok (.aload_n 0, 1) := by decide +kernel
theorem d_Li_doStep_22 : decode m_Li_doStep.2.1 22 = .ok (.getfield 15, 3) := by decide +kernel
theorem d_Li_doStep_25 : decode m_Li_doStep.2.1 25 = .ok (.getfield 58, 3) := by decide +kernel
theorem f_Li_58 : aw_F "MaypoleGreen$Life" 58 4 2 true := ⟨cR4, cT4, 7, fun k => cY4.getD k .int, rfl, ci4, cy4, cn4, rfl, by decide, aw_in 94 (by decide +kernel) rfl, rfl, rfl, rfl⟩
theorem d_Li_doStep_28 : decode m_Li_doStep.2.1 28 = .ok (.iload_n 1, 1) := by decide +kernel
theorem d_Li_doStep_29 : decode m_Li_doStep.2.1 29 = .ok (.iaload, 1) := by decide +kernel
theorem d_Li_doStep_30 : decode m_Li_doStep.2.1 30 = .ok (.tableswitch 242 4 16 #[66, 242, 242, 95, 109, 132, 146, 157, 242, 242, 242, 242, 198], 66) := by decide +kernel
theorem d_Li_doStep_272 : decode m_Li_doStep.2.1 272 = .ok (.aload_n 0, 1) := by decide +kernel
theorem d_Li_doStep_273 : decode m_Li_doStep.2.1 273 = .ok (.iconst 1, 1) := by decide +kernel
theorem d_Li_doStep_274 : decode m_Li_doStep.2.1 274 = .ok (.putfield 32, 3) := by decide +kernel
theorem d_Li_doStep_277 : decode m_Li_doStep.2.1 277 = .ok (.return_, 1) := by decide +kernel
theorem d_Li_doStep_96 : decode m_Li_doStep.2.1 96 = .ok (.aload_n 0, 1) := by decide +kernel
theorem d_Li_doStep_97 : decode m_Li_doStep.2.1 97 = .ok (.aload_n 0, 1) := by decide +kernel
theorem d_Li_doStep_98 : decode m_Li_doStep.2.1 98 = .ok (.getfield 9, 3) := by decide +kernel
theorem d_Li_doStep_101 : decode m_Li_doStep.2.1 101 = .ok (.iconst 2, 1) := by decide +kernel
theorem d_Li_doStep_102 : decode m_Li_doStep.2.1 102 = .ok (.iload_n 3, 1) := by decide +kernel
theorem d_Li_doStep_103 : decode m_Li_doStep.2.1 103 = .ok (.imul, 1) := by decide +kernel
theorem d_Li_doStep_104 : decode m_Li_doStep.2.1 104 = .ok (.iload 4, 2) := by decide +kernel
theorem d_Li_doStep_106 : decode m_Li_doStep.2.1 106 = .ok (.iadd, 1) := by decide +kernel
theorem d_Li_doStep_107 : decode m_Li_doStep.2.1 107 = .ok (.invokevirtual 61, 3) := by decide +kernel
theorem lk_Li_61 : Cond.methodLink "MaypoleGreen$Life" 61 m_Gr_makePass.1 ∈ aw_T := aw_in 1196 (by decide +kernel) rfl
theorem d_Li_doStep_110 : decode m_Li_doStep.2.1 110 = .ok (.iconst (-1), 1) := by decide +kernel
theorem d_Li_doStep_111 : decode m_Li_doStep.2.1 111 = .ok (.if_icmp .eq 7, 3) := by decide +kernel
theorem d_Li_doStep_118 : decode m_Li_doStep.2.1 118 = .ok (.iconst 0, 1) := by decide +kernel
theorem d_Li_doStep_119 : decode m_Li_doStep.2.1 119 = .ok (.invokevirtual 67, 3) := by decide +kernel
abbrev m_Li_count : aw_MI := (⟨"MaypoleGreen$Life", "count", "(Z)V"⟩, prog_6_method_5_code, 2, none)
theorem lk_Li_67 : Cond.methodLink "MaypoleGreen$Life" 67 m_Li_count.1 ∈ aw_T := aw_in 1197 (by decide +kernel) rfl
theorem k_Li_count : aw_K m_Li_count 1 := ⟨aw_in 1200 (by decide +kernel) rfl, aw_in 12 (by decide +kernel) rfl, ⟨by decide, by decide, by decide +kernel⟩, by decide, by decide +kernel⟩
theorem in_Li_count : Cond.instanceMethod m_Li_count.1 ∈ aw_T := aw_in 1199 (by decide +kernel) rfl
theorem se_Li_count : Cond.selects m_Li_count.1.cls m_Li_count.1 m_Li_count.1 ∈ aw_T := aw_inP 49 (by decide +kernel) rfl
theorem d_Li_doStep_122 : decode m_Li_doStep.2.1 122 = .ok (.goto 155, 3) := by decide +kernel
theorem d_Li_doStep_114 : decode m_Li_doStep.2.1 114 = .ok (.iconst 1, 1) := by decide +kernel
theorem d_Li_doStep_115 : decode m_Li_doStep.2.1 115 = .ok (.goto 4, 3) := by decide +kernel
theorem d_Li_doStep_125 : decode m_Li_doStep.2.1 125 = .ok (.aload_n 0, 1) := by decide +kernel
theorem d_Li_doStep_126 : decode m_Li_doStep.2.1 126 = .ok (.aload_n 0, 1) := by decide +kernel
theorem d_Li_doStep_127 : decode m_Li_doStep.2.1 127 = .ok (.getfield 9, 3) := by decide +kernel
theorem d_Li_doStep_130 : decode m_Li_doStep.2.1 130 = .ok (.invokevirtual 71, 3) := by decide +kernel
theorem lk_Li_71 : Cond.methodLink "MaypoleGreen$Life" 71 m_Gr_doBack.1 ∈ aw_T := aw_in 1201 (by decide +kernel) rfl
theorem in_Gr_doBack : Cond.instanceMethod m_Gr_doBack.1 ∈ aw_T := aw_in 910 (by decide +kernel) rfl
theorem se_Gr_doBack : Cond.selects m_Gr_doBack.1.cls m_Gr_doBack.1 m_Gr_doBack.1 ∈ aw_T := aw_in 911 (by decide +kernel) rfl
theorem d_Li_doStep_133 : decode m_Li_doStep.2.1 133 = .ok (.invokevirtual 67, 3) := by decide +kernel
theorem d_Li_doStep_136 : decode m_Li_doStep.2.1 136 = .ok (.goto 141, 3) := by decide +kernel
theorem d_Li_doStep_139 : decode m_Li_doStep.2.1 139 = .ok (.aload_n 0, 1) := by decide +kernel
theorem d_Li_doStep_140 : decode m_Li_doStep.2.1 140 = .ok (.aload_n 0, 1) := by decide +kernel
theorem d_Li_doStep_141 : decode m_Li_doStep.2.1 141 = .ok (.getfield 9, 3) := by decide +kernel
theorem d_Li_doStep_144 : decode m_Li_doStep.2.1 144 = .ok (.iload_n 3, 1) := by decide +kernel
theorem d_Li_doStep_145 : decode m_Li_doStep.2.1 145 = .ok (.invokevirtual 75, 3) := by decide +kernel
theorem lk_Li_75 : Cond.methodLink "MaypoleGreen$Life" 75 m_Gr_weaveTimes.1 ∈ aw_T := aw_in 1202 (by decide +kernel) rfl
theorem in_Gr_weaveTimes : Cond.instanceMethod m_Gr_weaveTimes.1 ∈ aw_T := aw_in 918 (by decide +kernel) rfl
theorem se_Gr_weaveTimes : Cond.selects m_Gr_weaveTimes.1.cls m_Gr_weaveTimes.1 m_Gr_weaveTimes.1 ∈ aw_T := aw_in 919 (by decide +kernel) rfl
theorem d_Li_doStep_148 : decode m_Li_doStep.2.1 148 = .ok (.ifCond .le 7, 3) := by decide +kernel
theorem d_Li_doStep_155 : decode m_Li_doStep.2.1 155 = .ok (.iconst 0, 1) := by decide +kernel
theorem d_Li_doStep_156 : decode m_Li_doStep.2.1 156 = .ok (.invokevirtual 67, 3) := by decide +kernel
theorem d_Li_doStep_159 : decode m_Li_doStep.2.1 159 = .ok (.goto 118, 3) := by decide +kernel
theorem d_Li_doStep_151 : decode m_Li_doStep.2.1 151 = .ok (.iconst 1, 1) := by decide +kernel
theorem d_Li_doStep_152 : decode m_Li_doStep.2.1 152 = .ok (.goto 4, 3) := by decide +kernel
theorem d_Li_doStep_162 : decode m_Li_doStep.2.1 162 = .ok (.aload_n 0, 1) := by decide +kernel
theorem d_Li_doStep_163 : decode m_Li_doStep.2.1 163 = .ok (.aload_n 0, 1) := by decide +kernel
theorem d_Li_doStep_164 : decode m_Li_doStep.2.1 164 = .ok (.iload_n 3, 1) := by decide +kernel
theorem d_Li_doStep_165 : decode m_Li_doStep.2.1 165 = .ok (.iload 4, 2) := by decide +kernel
theorem d_Li_doStep_167 : decode m_Li_doStep.2.1 167 = .ok (.invokevirtual 78, 3) := by decide +kernel
abbrev m_Li_repaint : aw_MI := (⟨"MaypoleGreen$Life", "repaint", "(II)Z"⟩, prog_6_method_6_code, 3, some .boolean)
theorem lk_Li_78 : Cond.methodLink "MaypoleGreen$Life" 78 m_Li_repaint.1 ∈ aw_T := aw_in 1203 (by decide +kernel) rfl
theorem k_Li_repaint : aw_K m_Li_repaint 2 := ⟨aw_in 1206 (by decide +kernel) rfl, aw_in 12 (by decide +kernel) rfl, ⟨by decide, by decide, by decide +kernel⟩, by decide, by decide +kernel⟩
theorem in_Li_repaint : Cond.instanceMethod m_Li_repaint.1 ∈ aw_T := aw_in 1205 (by decide +kernel) rfl
theorem se_Li_repaint : Cond.selects m_Li_repaint.1.cls m_Li_repaint.1 m_Li_repaint.1 ∈ aw_T := aw_inP 50 (by decide +kernel) rfl
theorem d_Li_doStep_170 : decode m_Li_doStep.2.1 170 = .ok (.invokevirtual 67, 3) := by decide +kernel
theorem d_Li_doStep_173 : decode m_Li_doStep.2.1 173 = .ok (.goto 104, 3) := by decide +kernel
theorem d_Li_doStep_176 : decode m_Li_doStep.2.1 176 = .ok (.aload_n 0, 1) := by decide +kernel
theorem d_Li_doStep_177 : decode m_Li_doStep.2.1 177 = .ok (.aload_n 0, 1) := by decide +kernel
theorem d_Li_doStep_178 : decode m_Li_doStep.2.1 178 = .ok (.invokevirtual 82, 3) := by decide +kernel
abbrev m_Li_passAny : aw_MI := (⟨"MaypoleGreen$Life", "passAny", "()Z"⟩, prog_6_method_7_code, 5, some .boolean)
theorem lk_Li_82 : Cond.methodLink "MaypoleGreen$Life" 82 m_Li_passAny.1 ∈ aw_T := aw_in 1207 (by decide +kernel) rfl
theorem k_Li_passAny : aw_K m_Li_passAny 0 := ⟨aw_in 1210 (by decide +kernel) rfl, aw_in 12 (by decide +kernel) rfl, ⟨by decide, by decide, by decide +kernel⟩, by decide, by decide +kernel⟩
theorem in_Li_passAny : Cond.instanceMethod m_Li_passAny.1 ∈ aw_T := aw_in 1209 (by decide +kernel) rfl
theorem se_Li_passAny : Cond.selects m_Li_passAny.1.cls m_Li_passAny.1 m_Li_passAny.1 ∈ aw_T := aw_inP 51 (by decide +kernel) rfl
theorem d_Li_doStep_181 : decode m_Li_doStep.2.1 181 = .ok (.invokevirtual 67, 3) := by decide +kernel
theorem d_Li_doStep_184 : decode m_Li_doStep.2.1 184 = .ok (.goto 93, 3) := by decide +kernel
theorem d_Li_doStep_187 : decode m_Li_doStep.2.1 187 = .ok (.aload_n 0, 1) := by decide +kernel
theorem d_Li_doStep_188 : decode m_Li_doStep.2.1 188 = .ok (.aload_n 0, 1) := by decide +kernel
theorem d_Li_doStep_189 : decode m_Li_doStep.2.1 189 = .ok (.getfield 15, 3) := by decide +kernel
theorem d_Li_doStep_192 : decode m_Li_doStep.2.1 192 = .ok (.getfield 85, 3) := by decide +kernel
theorem f_Li_85 : aw_F "MaypoleGreen$Life" 85 4 3 true := ⟨cR4, cT4, 7, fun k => cY4.getD k .int, rfl, ci4, cy4, cn4, rfl, by decide, aw_in 97 (by decide +kernel) rfl, rfl, rfl, rfl⟩
theorem d_Li_doStep_195 : decode m_Li_doStep.2.1 195 = .ok (.iload_n 1, 1) := by decide +kernel
theorem d_Li_doStep_196 : decode m_Li_doStep.2.1 196 = .ok (.iaload, 1) := by decide +kernel
theorem d_Li_doStep_197 : decode m_Li_doStep.2.1 197 = .ok (.iload_n 3, 1) := by decide +kernel
theorem d_Li_doStep_198 : decode m_Li_doStep.2.1 198 = .ok (.iload 4, 2) := by decide +kernel
theorem d_Li_doStep_200 : decode m_Li_doStep.2.1 200 = .ok (.invokevirtual 88, 3) := by decide +kernel
abbrev m_Li_holds : aw_MI := (⟨"MaypoleGreen$Life", "holds", "(III)Z"⟩, prog_6_method_9_code, 4, some .boolean)
theorem lk_Li_88 : Cond.methodLink "MaypoleGreen$Life" 88 m_Li_holds.1 ∈ aw_T := aw_in 1217 (by decide +kernel) rfl
theorem k_Li_holds : aw_K m_Li_holds 3 := ⟨aw_in 1220 (by decide +kernel) rfl, aw_in 12 (by decide +kernel) rfl, ⟨by decide, by decide, by decide +kernel⟩, by decide, by decide +kernel⟩
theorem in_Li_holds : Cond.instanceMethod m_Li_holds.1 ∈ aw_T := aw_in 1219 (by decide +kernel) rfl
theorem se_Li_holds : Cond.selects m_Li_holds.1.cls m_Li_holds.1 m_Li_holds.1 ∈ aw_T := aw_inP 53 (by decide +kernel) rfl
theorem d_Li_doStep_203 : decode m_Li_doStep.2.1 203 = .ok (.ifCond .eq 74, 3) := by decide +kernel
theorem d_Li_doStep_206 : decode m_Li_doStep.2.1 206 = .ok (.aload_n 0, 1) := by decide +kernel
theorem d_Li_doStep_207 : decode m_Li_doStep.2.1 207 = .ok (.iload_n 1, 1) := by decide +kernel
theorem d_Li_doStep_208 : decode m_Li_doStep.2.1 208 = .ok (.iconst 1, 1) := by decide +kernel
theorem d_Li_doStep_209 : decode m_Li_doStep.2.1 209 = .ok (.iadd, 1) := by decide +kernel
theorem d_Li_doStep_210 : decode m_Li_doStep.2.1 210 = .ok (.aload_n 0, 1) := by decide +kernel
theorem d_Li_doStep_211 : decode m_Li_doStep.2.1 211 = .ok (.getfield 15, 3) := by decide +kernel
theorem d_Li_doStep_214 : decode m_Li_doStep.2.1 214 = .ok (.getfield 40, 3) := by decide +kernel
theorem d_Li_doStep_217 : decode m_Li_doStep.2.1 217 = .ok (.iload_n 1, 1) := by decide +kernel
theorem d_Li_doStep_218 : decode m_Li_doStep.2.1 218 = .ok (.iaload, 1) := by decide +kernel
theorem d_Li_doStep_219 : decode m_Li_doStep.2.1 219 = .ok (.iload_n 2, 1) := by decide +kernel
theorem d_Li_doStep_220 : decode m_Li_doStep.2.1 220 = .ok (.iconst 1, 1) := by decide +kernel
theorem d_Li_doStep_221 : decode m_Li_doStep.2.1 221 = .ok (.iadd, 1) := by decide +kernel
theorem d_Li_doStep_222 : decode m_Li_doStep.2.1 222 = .ok (.invokevirtual 92, 3) := by decide +kernel
theorem lk_Li_92 : Cond.methodLink "MaypoleGreen$Life" 92 m_Li_doBlock.1 ∈ aw_T := aw_in 1226 (by decide +kernel) rfl
theorem in_Li_doBlock : Cond.instanceMethod m_Li_doBlock.1 ∈ aw_T := aw_in 1190 (by decide +kernel) rfl
theorem se_Li_doBlock : Cond.selects m_Li_doBlock.1.cls m_Li_doBlock.1 m_Li_doBlock.1 ∈ aw_T := aw_inP 47 (by decide +kernel) rfl
theorem d_Li_doStep_225 : decode m_Li_doStep.2.1 225 = .ok (.goto 52, 3) := by decide +kernel
theorem d_Li_doStep_228 : decode m_Li_doStep.2.1 228 = .ok (.iconst 0, 1) := by decide +kernel
theorem d_Li_doStep_229 : decode m_Li_doStep.2.1 229 = .ok (.istore 5, 2) := by decide +kernel
theorem d_Li_doStep_231 : decode m_Li_doStep.2.1 231 = .ok (.iload 5, 2) := by decide +kernel
theorem d_Li_doStep_233 : decode m_Li_doStep.2.1 233 = .ok (.iload_n 3, 1) := by decide +kernel
theorem d_Li_doStep_234 : decode m_Li_doStep.2.1 234 = .ok (.if_icmp .ge 35, 3) := by decide +kernel
theorem d_Li_doStep_269 : decode m_Li_doStep.2.1 269 = .ok (.goto 8, 3) := by decide +kernel
theorem d_Li_doStep_237 : decode m_Li_doStep.2.1 237 = .ok (.aload_n 0, 1) := by decide +kernel
theorem d_Li_doStep_238 : decode m_Li_doStep.2.1 238 = .ok (.getfield 32, 3) := by decide +kernel
theorem d_Li_doStep_241 : decode m_Li_doStep.2.1 241 = .ok (.ifCond .ne 28, 3) := by decide +kernel
theorem d_Li_doStep_244 : decode m_Li_doStep.2.1 244 = .ok (.aload_n 0, 1) := by decide +kernel
theorem d_Li_doStep_245 : decode m_Li_doStep.2.1 245 = .ok (.iload_n 1, 1) := by decide +kernel
theorem d_Li_doStep_246 : decode m_Li_doStep.2.1 246 = .ok (.iconst 1, 1) := by decide +kernel
theorem d_Li_doStep_247 : decode m_Li_doStep.2.1 247 = .ok (.iadd, 1) := by decide +kernel
theorem d_Li_doStep_248 : decode m_Li_doStep.2.1 248 = .ok (.aload_n 0, 1) := by decide +kernel
theorem d_Li_doStep_249 : decode m_Li_doStep.2.1 249 = .ok (.getfield 15, 3) := by decide +kernel
theorem d_Li_doStep_252 : decode m_Li_doStep.2.1 252 = .ok (.getfield 40, 3) := by decide +kernel
theorem d_Li_doStep_255 : decode m_Li_doStep.2.1 255 = .ok (.iload_n 1, 1) := by decide +kernel
theorem d_Li_doStep_256 : decode m_Li_doStep.2.1 256 = .ok (.iaload, 1) := by decide +kernel
theorem d_Li_doStep_257 : decode m_Li_doStep.2.1 257 = .ok (.iload_n 2, 1) := by decide +kernel
theorem d_Li_doStep_258 : decode m_Li_doStep.2.1 258 = .ok (.iconst 1, 1) := by decide +kernel
theorem d_Li_doStep_259 : decode m_Li_doStep.2.1 259 = .ok (.iadd, 1) := by decide +kernel
theorem d_Li_doStep_260 : decode m_Li_doStep.2.1 260 = .ok (.invokevirtual 92, 3) := by decide +kernel
theorem d_Li_doStep_263 : decode m_Li_doStep.2.1 263 = .ok (.iinc 5 1, 3) := by decide +kernel
theorem d_Li_doStep_266 : decode m_Li_doStep.2.1 266 = .ok (.goto (-35), 3) := by decide +kernel
theorem d_Li_count_0 : decode m_Li_count.2.1 0 = .ok (.iload_n 1, 1) := by decide +kernel
theorem d_Li_count_1 : decode m_Li_count.2.1 1 = .ok (.ifCond .ne 13, 3) := by decide +kernel
theorem d_Li_count_14 : decode m_Li_count.2.1 14 = .ok (.return_, 1) := by decide +kernel
theorem d_Li_count_4 : decode m_Li_count.2.1 4 = .ok (.aload_n 0, 1) := by decide +kernel
theorem d_Li_count_5 : decode m_Li_count.2.1 5 = .ok (.dup, 1) := by decide +kernel
theorem d_Li_count_6 : decode m_Li_count.2.1 6 = .ok (.getfield 26, 3) := by decide +kernel
theorem d_Li_count_9 : decode m_Li_count.2.1 9 = .ok (.iconst 1, 1) := by decide +kernel
theorem d_Li_count_10 : decode m_Li_count.2.1 10 = .ok (.iadd, 1) := by decide +kernel
theorem d_Li_count_11 : decode m_Li_count.2.1 11 = .ok (.putfield 26, 3) := by decide +kernel
theorem d_Li_repaint_0 : decode m_Li_repaint.2.1 0 = .ok (.aload_n 0, 1) := by decide +kernel
theorem d_Li_repaint_1 : decode m_Li_repaint.2.1 1 = .ok (.getfield 9, 3) := by decide +kernel
theorem d_Li_repaint_4 : decode m_Li_repaint.2.1 4 = .ok (.getfield 96, 3) := by decide +kernel
theorem f_Li_96 : aw_F "MaypoleGreen$Life" 96 2 6 true := ⟨cR2, cT2, 13, fun k => cY2.getD k .int, rfl, ci2, cy2, cn2, rfl, by decide, aw_in 141 (by decide +kernel) rfl, rfl, rfl, rfl⟩
theorem d_Li_repaint_7 : decode m_Li_repaint.2.1 7 = .ok (.iload_n 1, 1) := by decide +kernel
theorem d_Li_repaint_8 : decode m_Li_repaint.2.1 8 = .ok (.iaload, 1) := by decide +kernel
theorem d_Li_repaint_9 : decode m_Li_repaint.2.1 9 = .ok (.iload_n 2, 1) := by decide +kernel
theorem d_Li_repaint_10 : decode m_Li_repaint.2.1 10 = .ok (.if_icmp .ne 5, 3) := by decide +kernel
theorem d_Li_repaint_15 : decode m_Li_repaint.2.1 15 = .ok (.aload_n 0, 1) := by decide +kernel
theorem d_Li_repaint_16 : decode m_Li_repaint.2.1 16 = .ok (.getfield 9, 3) := by decide +kernel
theorem d_Li_repaint_19 : decode m_Li_repaint.2.1 19 = .ok (.getfield 96, 3) := by decide +kernel
theorem d_Li_repaint_22 : decode m_Li_repaint.2.1 22 = .ok (.iload_n 1, 1) := by decide +kernel
theorem d_Li_repaint_23 : decode m_Li_repaint.2.1 23 = .ok (.iload_n 2, 1) := by decide +kernel
theorem d_Li_repaint_24 : decode m_Li_repaint.2.1 24 = .ok (.iastore, 1) := by decide +kernel
theorem d_Li_repaint_25 : decode m_Li_repaint.2.1 25 = .ok (.iconst 1, 1) := by decide +kernel
theorem d_Li_repaint_26 : decode m_Li_repaint.2.1 26 = .ok (.ireturn, 1) := by decide +kernel
theorem d_Li_repaint_13 : decode m_Li_repaint.2.1 13 = .ok (.iconst 0, 1) := by decide +kernel
theorem d_Li_repaint_14 : decode m_Li_repaint.2.1 14 = .ok (.ireturn, 1) := by decide +kernel
theorem d_Li_passAny_0 : decode m_Li_passAny.2.1 0 = .ok (.aload_n 0, 1) := by decide +kernel
theorem d_Li_passAny_1 : decode m_Li_passAny.2.1 1 = .ok (.getfield 9, 3) := by decide +kernel
theorem d_Li_passAny_4 : decode m_Li_passAny.2.1 4 = .ok (.invokevirtual 99, 3) := by decide +kernel
theorem lk_Li_99 : Cond.methodLink "MaypoleGreen$Life" 99 m_Gr_gaps.1 ∈ aw_T := aw_in 1211 (by decide +kernel) rfl
theorem d_Li_passAny_7 : decode m_Li_passAny.2.1 7 = .ok (.istore_n 1, 1) := by decide +kernel
theorem d_Li_passAny_8 : decode m_Li_passAny.2.1 8 = .ok (.iload_n 1, 1) := by decide +kernel
theorem d_Li_passAny_9 : decode m_Li_passAny.2.1 9 = .ok (.ifCond .ne 5, 3) := by decide +kernel
theorem d_Li_passAny_14 : decode m_Li_passAny.2.1 14 = .ok (.aload_n 0, 1) := by decide +kernel
theorem d_Li_passAny_15 : decode m_Li_passAny.2.1 15 = .ok (.iload_n 1, 1) := by decide +kernel
theorem d_Li_passAny_16 : decode m_Li_passAny.2.1 16 = .ok (.invokevirtual 103, 3) := by decide +kernel
abbrev m_Li_drawBy : aw_MI := (⟨"MaypoleGreen$Life", "drawBy", "(I)I"⟩, prog_6_method_8_code, 2, some .int)
theorem lk_Li_103 : Cond.methodLink "MaypoleGreen$Life" 103 m_Li_drawBy.1 ∈ aw_T := aw_in 1212 (by decide +kernel) rfl
theorem k_Li_drawBy : aw_K m_Li_drawBy 1 := ⟨aw_in 1215 (by decide +kernel) rfl, aw_in 12 (by decide +kernel) rfl, ⟨by decide, by decide, by decide +kernel⟩, by decide, by decide +kernel⟩
theorem in_Li_drawBy : Cond.instanceMethod m_Li_drawBy.1 ∈ aw_T := aw_in 1214 (by decide +kernel) rfl
theorem se_Li_drawBy : Cond.selects m_Li_drawBy.1.cls m_Li_drawBy.1 m_Li_drawBy.1 ∈ aw_T := aw_inP 52 (by decide +kernel) rfl
theorem d_Li_passAny_19 : decode m_Li_passAny.2.1 19 = .ok (.istore_n 2, 1) := by decide +kernel
theorem d_Li_passAny_20 : decode m_Li_passAny.2.1 20 = .ok (.aload_n 0, 1) := by decide +kernel
theorem d_Li_passAny_21 : decode m_Li_passAny.2.1 21 = .ok (.iconst 2, 1) := by decide +kernel
theorem d_Li_passAny_22 : decode m_Li_passAny.2.1 22 = .ok (.invokevirtual 103, 3) := by decide +kernel
theorem d_Li_passAny_25 : decode m_Li_passAny.2.1 25 = .ok (.istore_n 3, 1) := by decide +kernel
theorem d_Li_passAny_26 : decode m_Li_passAny.2.1 26 = .ok (.aload_n 0, 1) := by decide +kernel
theorem d_Li_passAny_27 : decode m_Li_passAny.2.1 27 = .ok (.bipush 16, 2) := by decide +kernel
theorem d_Li_passAny_29 : decode m_Li_passAny.2.1 29 = .ok (.invokevirtual 103, 3) := by decide +kernel
theorem d_Li_passAny_32 : decode m_Li_passAny.2.1 32 = .ok (.aload_n 0, 1) := by decide +kernel
theorem d_Li_passAny_33 : decode m_Li_passAny.2.1 33 = .ok (.getfield 9, 3) := by decide +kernel
theorem d_Li_passAny_36 : decode m_Li_passAny.2.1 36 = .ok (.getfield 106, 3) := by decide +kernel
theorem f_Li_106 : aw_F "MaypoleGreen$Life" 106 2 1 false := ⟨cR2, cT2, 13, fun k => cY2.getD k .int, rfl, ci2, cy2, cn2, rfl, by decide, aw_in 130 (by decide +kernel) rfl, rfl, rfl, rfl⟩
theorem d_Li_passAny_39 : decode m_Li_passAny.2.1 39 = .ok (.if_icmp .ge 7, 3) := by decide +kernel
theorem d_Li_passAny_46 : decode m_Li_passAny.2.1 46 = .ok (.iconst 0, 1) := by decide +kernel
theorem d_Li_passAny_47 : decode m_Li_passAny.2.1 47 = .ok (.istore 4, 2) := by decide +kernel
theorem d_Li_passAny_49 : decode m_Li_passAny.2.1 49 = .ok (.aload_n 0, 1) := by decide +kernel
theorem d_Li_passAny_50 : decode m_Li_passAny.2.1 50 = .ok (.getfield 9, 3) := by decide +kernel
theorem d_Li_passAny_53 : decode m_Li_passAny.2.1 53 = .ok (.iconst 2, 1) := by decide +kernel
theorem d_Li_passAny_54 : decode m_Li_passAny.2.1 54 = .ok (.iload_n 2, 1) := by decide +kernel
theorem d_Li_passAny_55 : decode m_Li_passAny.2.1 55 = .ok (.imul, 1) := by decide +kernel
theorem d_Li_passAny_56 : decode m_Li_passAny.2.1 56 = .ok (.iload 4, 2) := by decide +kernel
theorem d_Li_passAny_58 : decode m_Li_passAny.2.1 58 = .ok (.ifCond .eq 9, 3) := by decide +kernel
theorem d_Li_passAny_67 : decode m_Li_passAny.2.1 67 = .ok (.iload_n 3, 1) := by decide +kernel
theorem d_Li_passAny_68 : decode m_Li_passAny.2.1 68 = .ok (.iadd, 1) := by decide +kernel
theorem d_Li_passAny_69 : decode m_Li_passAny.2.1 69 = .ok (.invokevirtual 61, 3) := by decide +kernel
theorem d_Li_passAny_72 : decode m_Li_passAny.2.1 72 = .ok (.iconst (-1), 1) := by decide +kernel
theorem d_Li_passAny_73 : decode m_Li_passAny.2.1 73 = .ok (.if_icmp .eq 7, 3) := by decide +kernel
theorem d_Li_passAny_80 : decode m_Li_passAny.2.1 80 = .ok (.iconst 0, 1) := by decide +kernel
theorem d_Li_passAny_81 : decode m_Li_passAny.2.1 81 = .ok (.ireturn, 1) := by decide +kernel
theorem d_Li_passAny_76 : decode m_Li_passAny.2.1 76 = .ok (.iconst 1, 1) := by decide +kernel
theorem d_Li_passAny_77 : decode m_Li_passAny.2.1 77 = .ok (.goto 4, 3) := by decide +kernel
theorem d_Li_passAny_42 : decode m_Li_passAny.2.1 42 = .ok (.iconst 1, 1) := by decide +kernel
theorem d_Li_passAny_43 : decode m_Li_passAny.2.1 43 = .ok (.goto 4, 3) := by decide +kernel
theorem d_Li_passAny_61 : decode m_Li_passAny.2.1 61 = .ok (.iconst 1, 1) := by decide +kernel
theorem d_Li_passAny_62 : decode m_Li_passAny.2.1 62 = .ok (.iload_n 3, 1) := by decide +kernel
theorem d_Li_passAny_63 : decode m_Li_passAny.2.1 63 = .ok (.isub, 1) := by decide +kernel
theorem d_Li_passAny_64 : decode m_Li_passAny.2.1 64 = .ok (.goto 4, 3) := by decide +kernel
theorem d_Li_passAny_12 : decode m_Li_passAny.2.1 12 = .ok (.iconst 0, 1) := by decide +kernel
theorem d_Li_passAny_13 : decode m_Li_passAny.2.1 13 = .ok (.ireturn, 1) := by decide +kernel
theorem d_Li_drawBy_0 : decode m_Li_drawBy.2.1 0 = .ok (.aload_n 0, 1) := by decide +kernel
theorem d_Li_drawBy_1 : decode m_Li_drawBy.2.1 1 = .ok (.aload_n 0, 1) := by decide +kernel
theorem d_Li_drawBy_2 : decode m_Li_drawBy.2.1 2 = .ok (.getfield 19, 3) := by decide +kernel
theorem d_Li_drawBy_5 : decode m_Li_drawBy.2.1 5 = .ok (.sipush 3269, 3) := by decide +kernel
theorem d_Li_drawBy_8 : decode m_Li_drawBy.2.1 8 = .ok (.imul, 1) := by decide +kernel
theorem d_Li_drawBy_9 : decode m_Li_drawBy.2.1 9 = .ok (.sipush 11493, 3) := by decide +kernel
theorem d_Li_drawBy_12 : decode m_Li_drawBy.2.1 12 = .ok (.iadd, 1) := by decide +kernel
theorem d_Li_drawBy_13 : decode m_Li_drawBy.2.1 13 = .ok (.ldc 109, 2) := by decide +kernel
theorem cc_Li_109 : Cond.constant "MaypoleGreen$Life" 109 (65536) ∈ aw_T := aw_in 1216 (by decide +kernel) rfl
theorem d_Li_drawBy_15 : decode m_Li_drawBy.2.1 15 = .ok (.irem, 1) := by decide +kernel
theorem d_Li_drawBy_16 : decode m_Li_drawBy.2.1 16 = .ok (.putfield 19, 3) := by decide +kernel
theorem d_Li_drawBy_19 : decode m_Li_drawBy.2.1 19 = .ok (.iload_n 1, 1) := by decide +kernel
theorem d_Li_drawBy_20 : decode m_Li_drawBy.2.1 20 = .ok (.ifCond .le 15, 3) := by decide +kernel
theorem d_Li_drawBy_35 : decode m_Li_drawBy.2.1 35 = .ok (.iconst 0, 1) := by decide +kernel
theorem d_Li_drawBy_36 : decode m_Li_drawBy.2.1 36 = .ok (.ireturn, 1) := by decide +kernel
theorem d_Li_drawBy_23 : decode m_Li_drawBy.2.1 23 = .ok (.aload_n 0, 1) := by decide +kernel
theorem d_Li_drawBy_24 : decode m_Li_drawBy.2.1 24 = .ok (.getfield 19, 3) := by decide +kernel
theorem d_Li_drawBy_27 : decode m_Li_drawBy.2.1 27 = .ok (.bipush 8, 2) := by decide +kernel
theorem d_Li_drawBy_29 : decode m_Li_drawBy.2.1 29 = .ok (.idiv, 1) := by decide +kernel
theorem d_Li_drawBy_30 : decode m_Li_drawBy.2.1 30 = .ok (.iload_n 1, 1) := by decide +kernel
theorem d_Li_drawBy_31 : decode m_Li_drawBy.2.1 31 = .ok (.irem, 1) := by decide +kernel
theorem d_Li_drawBy_32 : decode m_Li_drawBy.2.1 32 = .ok (.goto 4, 3) := by decide +kernel
theorem d_Li_holds_0 : decode m_Li_holds.2.1 0 = .ok (.iload_n 1, 1) := by decide +kernel
theorem d_Li_holds_1 : decode m_Li_holds.2.1 1 = .ok (.tableswitch 93 12 14 #[27, 46, 65], 27) := by decide +kernel
theorem d_Li_holds_94 : decode m_Li_holds.2.1 94 = .ok (.aload_n 0, 1) := by decide +kernel
theorem d_Li_holds_95 : decode m_Li_holds.2.1 95 = .ok (.iload_n 2, 1) := by decide +kernel
theorem d_Li_holds_96 : decode m_Li_holds.2.1 96 = .ok (.iload_n 3, 1) := by decide +kernel
theorem d_Li_holds_97 : decode m_Li_holds.2.1 97 = .ok (.invokevirtual 125, 3) := by decide +kernel
abbrev m_Li_compares : aw_MI := (⟨"MaypoleGreen$Life", "compares", "(II)Z"⟩, prog_6_method_10_code, 3, some .boolean)
theorem lk_Li_125 : Cond.methodLink "MaypoleGreen$Life" 125 m_Li_compares.1 ∈ aw_T := aw_in 1222 (by decide +kernel) rfl
theorem k_Li_compares : aw_K m_Li_compares 2 := ⟨aw_in 1225 (by decide +kernel) rfl, aw_in 12 (by decide +kernel) rfl, ⟨by decide, by decide, by decide +kernel⟩, by decide, by decide +kernel⟩
theorem in_Li_compares : Cond.instanceMethod m_Li_compares.1 ∈ aw_T := aw_in 1224 (by decide +kernel) rfl
theorem se_Li_compares : Cond.selects m_Li_compares.1.cls m_Li_compares.1 m_Li_compares.1 ∈ aw_T := aw_inP 54 (by decide +kernel) rfl
theorem d_Li_holds_100 : decode m_Li_holds.2.1 100 = .ok (.ireturn, 1) := by decide +kernel
theorem d_Li_holds_28 : decode m_Li_holds.2.1 28 = .ok (.aload_n 0, 1) := by decide +kernel
theorem d_Li_holds_29 : decode m_Li_holds.2.1 29 = .ok (.getfield 9, 3) := by decide +kernel
theorem d_Li_holds_32 : decode m_Li_holds.2.1 32 = .ok (.getfield 110, 3) := by decide +kernel
theorem f_Li_110 : aw_F "MaypoleGreen$Life" 110 2 7 true := ⟨cR2, cT2, 13, fun k => cY2.getD k .int, rfl, ci2, cy2, cn2, rfl, by decide, aw_in 144 (by decide +kernel) rfl, rfl, rfl, rfl⟩
theorem d_Li_holds_35 : decode m_Li_holds.2.1 35 = .ok (.iload_n 2, 1) := by decide +kernel
theorem d_Li_holds_36 : decode m_Li_holds.2.1 36 = .ok (.iaload, 1) := by decide +kernel
theorem d_Li_holds_37 : decode m_Li_holds.2.1 37 = .ok (.iload_n 2, 1) := by decide +kernel
theorem d_Li_holds_38 : decode m_Li_holds.2.1 38 = .ok (.if_icmp .ne 7, 3) := by decide +kernel
theorem d_Li_holds_45 : decode m_Li_holds.2.1 45 = .ok (.iconst 0, 1) := by decide +kernel
theorem d_Li_holds_46 : decode m_Li_holds.2.1 46 = .ok (.ireturn, 1) := by decide +kernel
theorem d_Li_holds_41 : decode m_Li_holds.2.1 41 = .ok (.iconst 1, 1) := by decide +kernel
theorem d_Li_holds_42 : decode m_Li_holds.2.1 42 = .ok (.goto 4, 3) := by decide +kernel
theorem d_Li_holds_47 : decode m_Li_holds.2.1 47 = .ok (.aload_n 0, 1) := by decide +kernel
theorem d_Li_holds_48 : decode m_Li_holds.2.1 48 = .ok (.getfield 9, 3) := by decide +kernel
theorem d_Li_holds_51 : decode m_Li_holds.2.1 51 = .ok (.getfield 110, 3) := by decide +kernel
theorem d_Li_holds_54 : decode m_Li_holds.2.1 54 = .ok (.iload_n 2, 1) := by decide +kernel
theorem d_Li_holds_55 : decode m_Li_holds.2.1 55 = .ok (.iaload, 1) := by decide +kernel
theorem d_Li_holds_56 : decode m_Li_holds.2.1 56 = .ok (.iload_n 3, 1) := by decide +kernel
theorem d_Li_holds_57 : decode m_Li_holds.2.1 57 = .ok (.if_icmp .ne 7, 3) := by decide +kernel
theorem d_Li_holds_64 : decode m_Li_holds.2.1 64 = .ok (.iconst 0, 1) := by decide +kernel
theorem d_Li_holds_65 : decode m_Li_holds.2.1 65 = .ok (.ireturn, 1) := by decide +kernel
theorem d_Li_holds_60 : decode m_Li_holds.2.1 60 = .ok (.iconst 1, 1) := by decide +kernel
theorem d_Li_holds_61 : decode m_Li_holds.2.1 61 = .ok (.goto 4, 3) := by decide +kernel
theorem d_Li_holds_66 : decode m_Li_holds.2.1 66 = .ok (.aload_n 0, 1) := by decide +kernel
theorem d_Li_holds_67 : decode m_Li_holds.2.1 67 = .ok (.getfield 9, 3) := by decide +kernel
theorem d_Li_holds_70 : decode m_Li_holds.2.1 70 = .ok (.iload_n 2, 1) := by decide +kernel
theorem d_Li_holds_71 : decode m_Li_holds.2.1 71 = .ok (.aload_n 0, 1) := by decide +kernel
theorem d_Li_holds_72 : decode m_Li_holds.2.1 72 = .ok (.getfield 9, 3) := by decide +kernel
theorem d_Li_holds_75 : decode m_Li_holds.2.1 75 = .ok (.getfield 113, 3) := by decide +kernel
theorem f_Li_113 : aw_F "MaypoleGreen$Life" 113 2 10 true := ⟨cR2, cT2, 13, fun k => cY2.getD k .int, rfl, ci2, cy2, cn2, rfl, by decide, aw_in 152 (by decide +kernel) rfl, rfl, rfl, rfl⟩
theorem d_Li_holds_78 : decode m_Li_holds.2.1 78 = .ok (.getfield 117, 3) := by decide +kernel
theorem f_Li_117 : aw_F "MaypoleGreen$Life" 117 3 1 false := ⟨cR3, cT3, 2, fun k => cY3.getD k .int, rfl, ci3, cy3, cn3, rfl, by decide, aw_in 72 (by decide +kernel) rfl, rfl, rfl, rfl⟩
theorem d_Li_holds_81 : decode m_Li_holds.2.1 81 = .ok (.invokevirtual 122, 3) := by decide +kernel
theorem lk_Li_122 : Cond.methodLink "MaypoleGreen$Life" 122 m_Gr_colourIn.1 ∈ aw_T := aw_in 1221 (by decide +kernel) rfl
theorem d_Li_holds_84 : decode m_Li_holds.2.1 84 = .ok (.iload_n 3, 1) := by decide +kernel
theorem d_Li_holds_85 : decode m_Li_holds.2.1 85 = .ok (.if_icmp .ne 7, 3) := by decide +kernel
theorem d_Li_holds_92 : decode m_Li_holds.2.1 92 = .ok (.iconst 0, 1) := by decide +kernel
theorem d_Li_holds_93 : decode m_Li_holds.2.1 93 = .ok (.ireturn, 1) := by decide +kernel
theorem d_Li_holds_88 : decode m_Li_holds.2.1 88 = .ok (.iconst 1, 1) := by decide +kernel
theorem d_Li_holds_89 : decode m_Li_holds.2.1 89 = .ok (.goto 4, 3) := by decide +kernel
theorem d_Li_compares_0 : decode m_Li_compares.2.1 0 = .ok (.iload_n 1, 1) := by decide +kernel
theorem d_Li_compares_1 : decode m_Li_compares.2.1 1 = .ok (.bipush 60, 2) := by decide +kernel
theorem d_Li_compares_3 : decode m_Li_compares.2.1 3 = .ok (.if_icmp .ne 23, 3) := by decide +kernel
theorem d_Li_compares_26 : decode m_Li_compares.2.1 26 = .ok (.iload_n 1, 1) := by decide +kernel
theorem d_Li_compares_27 : decode m_Li_compares.2.1 27 = .ok (.bipush 62, 2) := by decide +kernel
theorem d_Li_compares_29 : decode m_Li_compares.2.1 29 = .ok (.if_icmp .ne 25, 3) := by decide +kernel
theorem d_Li_compares_54 : decode m_Li_compares.2.1 54 = .ok (.aload_n 0, 1) := by decide +kernel
theorem d_Li_compares_55 : decode m_Li_compares.2.1 55 = .ok (.getfield 9, 3) := by decide +kernel
theorem d_Li_compares_58 : decode m_Li_compares.2.1 58 = .ok (.getfield 113, 3) := by decide +kernel
theorem d_Li_compares_61 : decode m_Li_compares.2.1 61 = .ok (.getfield 117, 3) := by decide +kernel
theorem d_Li_compares_64 : decode m_Li_compares.2.1 64 = .ok (.iload_n 2, 1) := by decide +kernel
theorem d_Li_compares_65 : decode m_Li_compares.2.1 65 = .ok (.if_icmp .ne 7, 3) := by decide +kernel
theorem d_Li_compares_72 : decode m_Li_compares.2.1 72 = .ok (.iconst 0, 1) := by decide +kernel
theorem d_Li_compares_73 : decode m_Li_compares.2.1 73 = .ok (.ireturn, 1) := by decide +kernel
theorem d_Li_compares_68 : decode m_Li_compares.2.1 68 = .ok (.iconst 1, 1) := by decide +kernel
theorem d_Li_compares_69 : decode m_Li_compares.2.1 69 = .ok (.goto 4, 3) := by decide +kernel
theorem d_Li_compares_32 : decode m_Li_compares.2.1 32 = .ok (.aload_n 0, 1) := by decide +kernel
theorem d_Li_compares_33 : decode m_Li_compares.2.1 33 = .ok (.getfield 9, 3) := by decide +kernel
theorem d_Li_compares_36 : decode m_Li_compares.2.1 36 = .ok (.getfield 113, 3) := by decide +kernel
theorem d_Li_compares_39 : decode m_Li_compares.2.1 39 = .ok (.getfield 117, 3) := by decide +kernel
theorem d_Li_compares_42 : decode m_Li_compares.2.1 42 = .ok (.iload_n 2, 1) := by decide +kernel
theorem d_Li_compares_43 : decode m_Li_compares.2.1 43 = .ok (.if_icmp .le 7, 3) := by decide +kernel
theorem d_Li_compares_50 : decode m_Li_compares.2.1 50 = .ok (.iconst 0, 1) := by decide +kernel
theorem d_Li_compares_51 : decode m_Li_compares.2.1 51 = .ok (.goto 22, 3) := by decide +kernel
theorem d_Li_compares_46 : decode m_Li_compares.2.1 46 = .ok (.iconst 1, 1) := by decide +kernel
theorem d_Li_compares_47 : decode m_Li_compares.2.1 47 = .ok (.goto 26, 3) := by decide +kernel
theorem d_Li_compares_6 : decode m_Li_compares.2.1 6 = .ok (.aload_n 0, 1) := by decide +kernel
theorem d_Li_compares_7 : decode m_Li_compares.2.1 7 = .ok (.getfield 9, 3) := by decide +kernel
theorem d_Li_compares_10 : decode m_Li_compares.2.1 10 = .ok (.getfield 113, 3) := by decide +kernel
theorem d_Li_compares_13 : decode m_Li_compares.2.1 13 = .ok (.getfield 117, 3) := by decide +kernel
theorem d_Li_compares_16 : decode m_Li_compares.2.1 16 = .ok (.iload_n 2, 1) := by decide +kernel
theorem d_Li_compares_17 : decode m_Li_compares.2.1 17 = .ok (.if_icmp .ge 7, 3) := by decide +kernel
theorem d_Li_compares_24 : decode m_Li_compares.2.1 24 = .ok (.iconst 0, 1) := by decide +kernel
theorem d_Li_compares_25 : decode m_Li_compares.2.1 25 = .ok (.ireturn, 1) := by decide +kernel
theorem d_Li_compares_20 : decode m_Li_compares.2.1 20 = .ok (.iconst 1, 1) := by decide +kernel
theorem d_Li_compares_21 : decode m_Li_compares.2.1 21 = .ok (.goto 4, 3) := by decide +kernel
