abbrev m_Gr_clear : aw_MI := (⟨"MaypoleGreen$Green", "clear", "()V"⟩, prog_4_method_2_code, 1, none)
theorem k_Gr_clear : aw_K m_Gr_clear 0 := ⟨aw_in 572 (by decide +kernel) rfl, aw_in 3 (by decide +kernel) rfl, ⟨by decide, by decide, by decide +kernel⟩, by decide, by decide +kernel⟩
theorem d_Gr_clear_0 : decode m_Gr_clear.2.1 0 = .ok (.aload_n 0, 1) := by decide +kernel
theorem d_Gr_clear_1 : decode m_Gr_clear.2.1 1 = .ok (.iconst 0, 1) := by decide +kernel
theorem d_Gr_clear_2 : decode m_Gr_clear.2.1 2 = .ok (.putfield 54, 3) := by decide +kernel
theorem f_Gr_54 : aw_F "MaypoleGreen$Green" 54 2 0 false := ⟨cR2, cT2, 13, fun k => cY2.getD k .int, rfl, ci2, cy2, cn2, rfl, by decide, aw_in 123 (by decide +kernel) rfl, rfl, rfl, rfl⟩
theorem d_Gr_clear_5 : decode m_Gr_clear.2.1 5 = .ok (.aload_n 0, 1) := by decide +kernel
theorem d_Gr_clear_6 : decode m_Gr_clear.2.1 6 = .ok (.iconst 2, 1) := by decide +kernel
theorem d_Gr_clear_7 : decode m_Gr_clear.2.1 7 = .ok (.putfield 47, 3) := by decide +kernel
theorem f_Gr_47 : aw_F "MaypoleGreen$Green" 47 2 1 false := ⟨cR2, cT2, 13, fun k => cY2.getD k .int, rfl, ci2, cy2, cn2, rfl, by decide, aw_in 128 (by decide +kernel) rfl, rfl, rfl, rfl⟩
theorem d_Gr_clear_10 : decode m_Gr_clear.2.1 10 = .ok (.aload_n 0, 1) := by decide +kernel
theorem d_Gr_clear_11 : decode m_Gr_clear.2.1 11 = .ok (.bipush 12, 2) := by decide +kernel
theorem d_Gr_clear_13 : decode m_Gr_clear.2.1 13 = .ok (.putfield 51, 3) := by decide +kernel
theorem f_Gr_51 : aw_F "MaypoleGreen$Green" 51 2 2 false := ⟨cR2, cT2, 13, fun k => cY2.getD k .int, rfl, ci2, cy2, cn2, rfl, by decide, aw_in 132 (by decide +kernel) rfl, rfl, rfl, rfl⟩
theorem d_Gr_clear_16 : decode m_Gr_clear.2.1 16 = .ok (.aload_n 0, 1) := by decide +kernel
theorem d_Gr_clear_17 : decode m_Gr_clear.2.1 17 = .ok (.getfield 33, 3) := by decide +kernel
theorem f_Gr_33 : aw_F "MaypoleGreen$Green" 33 2 10 true := ⟨cR2, cT2, 13, fun k => cY2.getD k .int, rfl, ci2, cy2, cn2, rfl, by decide, aw_in 151 (by decide +kernel) rfl, rfl, rfl, rfl⟩
theorem d_Gr_clear_20 : decode m_Gr_clear.2.1 20 = .ok (.iconst 0, 1) := by decide +kernel
theorem d_Gr_clear_21 : decode m_Gr_clear.2.1 21 = .ok (.putfield 57, 3) := by decide +kernel
theorem f_Gr_57 : aw_F "MaypoleGreen$Green" 57 3 1 false := ⟨cR3, cT3, 2, fun k => cY3.getD k .int, rfl, ci3, cy3, cn3, rfl, by decide, aw_in 70 (by decide +kernel) rfl, rfl, rfl, rfl⟩
theorem d_Gr_clear_24 : decode m_Gr_clear.2.1 24 = .ok (.aload_n 0, 1) := by decide +kernel
theorem d_Gr_clear_25 : decode m_Gr_clear.2.1 25 = .ok (.getfield 40, 3) := by decide +kernel
theorem f_Gr_40 : aw_F "MaypoleGreen$Green" 40 2 11 true := ⟨cR2, cT2, 13, fun k => cY2.getD k .int, rfl, ci2, cy2, cn2, rfl, by decide, aw_in 154 (by decide +kernel) rfl, rfl, rfl, rfl⟩
theorem d_Gr_clear_28 : decode m_Gr_clear.2.1 28 = .ok (.invokevirtual 60, 3) := by decide +kernel
theorem lk_Gr_60 : Cond.methodLink "MaypoleGreen$Green" 60 m_Fe_clear.1 ∈ aw_T := aw_in 573 (by decide +kernel) rfl
theorem in_Fe_clear : Cond.instanceMethod m_Fe_clear.1 ∈ aw_T := aw_in 574 (by decide +kernel) rfl
theorem se_Fe_clear : Cond.selects m_Fe_clear.1.cls m_Fe_clear.1 m_Fe_clear.1 ∈ aw_T := aw_in 575 (by decide +kernel) rfl
theorem d_Gr_clear_31 : decode m_Gr_clear.2.1 31 = .ok (.aload_n 0, 1) := by decide +kernel
theorem d_Gr_clear_32 : decode m_Gr_clear.2.1 32 = .ok (.invokevirtual 63, 3) := by decide +kernel
abbrev m_Gr_forgetDone : aw_MI := (⟨"MaypoleGreen$Green", "forgetDone", "()V"⟩, prog_4_method_3_code, 1, none)
theorem lk_Gr_63 : Cond.methodLink "MaypoleGreen$Green" 63 m_Gr_forgetDone.1 ∈ aw_T := aw_in 577 (by decide +kernel) rfl
theorem k_Gr_forgetDone : aw_K m_Gr_forgetDone 0 := ⟨aw_in 580 (by decide +kernel) rfl, aw_in 3 (by decide +kernel) rfl, ⟨by decide, by decide, by decide +kernel⟩, by decide, by decide +kernel⟩
theorem in_Gr_forgetDone : Cond.instanceMethod m_Gr_forgetDone.1 ∈ aw_T := aw_in 578 (by decide +kernel) rfl
theorem se_Gr_forgetDone : Cond.selects m_Gr_forgetDone.1.cls m_Gr_forgetDone.1 m_Gr_forgetDone.1 ∈ aw_T := aw_in 579 (by decide +kernel) rfl
theorem d_Gr_clear_35 : decode m_Gr_clear.2.1 35 = .ok (.return_, 1) := by decide +kernel
theorem d_Gr_forgetDone_0 : decode m_Gr_forgetDone.2.1 0 = .ok (.aload_n 0, 1) := by decide +kernel
theorem d_Gr_forgetDone_1 : decode m_Gr_forgetDone.2.1 1 = .ok (.iconst 0, 1) := by decide +kernel
theorem d_Gr_forgetDone_2 : decode m_Gr_forgetDone.2.1 2 = .ok (.putfield 66, 3) := by decide +kernel
theorem f_Gr_66 : aw_F "MaypoleGreen$Green" 66 2 3 false := ⟨cR2, cT2, 13, fun k => cY2.getD k .int, rfl, ci2, cy2, cn2, rfl, by decide, aw_in 135 (by decide +kernel) rfl, rfl, rfl, rfl⟩
theorem d_Gr_forgetDone_5 : decode m_Gr_forgetDone.2.1 5 = .ok (.aload_n 0, 1) := by decide +kernel
theorem d_Gr_forgetDone_6 : decode m_Gr_forgetDone.2.1 6 = .ok (.iconst 0, 1) := by decide +kernel
theorem d_Gr_forgetDone_7 : decode m_Gr_forgetDone.2.1 7 = .ok (.putfield 69, 3) := by decide +kernel
theorem f_Gr_69 : aw_F "MaypoleGreen$Green" 69 2 4 false := ⟨cR2, cT2, 13, fun k => cY2.getD k .int, rfl, ci2, cy2, cn2, rfl, by decide, aw_in 137 (by decide +kernel) rfl, rfl, rfl, rfl⟩
theorem d_Gr_forgetDone_10 : decode m_Gr_forgetDone.2.1 10 = .ok (.return_, 1) := by decide +kernel
abbrev m_Gr_named : aw_MI := (⟨"MaypoleGreen$Green", "named", "(J)I"⟩, prog_4_method_6_code, 4, some .int)
theorem k_Gr_named : aw_K m_Gr_named 1 := ⟨aw_in 640 (by decide +kernel) rfl, aw_in 3 (by decide +kernel) rfl, ⟨by decide, by decide, by decide +kernel⟩, by decide, by decide +kernel⟩
theorem d_Gr_named_0 : decode m_Gr_named.2.1 0 = .ok (.iconst 0, 1) := by decide +kernel
theorem d_Gr_named_1 : decode m_Gr_named.2.1 1 = .ok (.istore_n 3, 1) := by decide +kernel
theorem d_Gr_named_2 : decode m_Gr_named.2.1 2 = .ok (.iload_n 3, 1) := by decide +kernel
theorem d_Gr_named_3 : decode m_Gr_named.2.1 3 = .ok (.aload_n 0, 1) := by decide +kernel
theorem d_Gr_named_4 : decode m_Gr_named.2.1 4 = .ok (.getfield 54, 3) := by decide +kernel
theorem d_Gr_named_7 : decode m_Gr_named.2.1 7 = .ok (.if_icmp .ge 22, 3) := by decide +kernel
theorem d_Gr_named_29 : decode m_Gr_named.2.1 29 = .ok (.iconst (-1), 1) := by decide +kernel
theorem d_Gr_named_30 : decode m_Gr_named.2.1 30 = .ok (.ireturn, 1) := by decide +kernel
theorem d_Gr_named_10 : decode m_Gr_named.2.1 10 = .ok (.aload_n 0, 1) := by decide +kernel
theorem d_Gr_named_11 : decode m_Gr_named.2.1 11 = .ok (.getfield 9, 3) := by decide +kernel
theorem f_Gr_9 : aw_F "MaypoleGreen$Green" 9 2 5 true := ⟨cR2, cT2, 13, fun k => cY2.getD k .int, rfl, ci2, cy2, cn2, rfl, by decide, aw_in 139 (by decide +kernel) rfl, rfl, rfl, rfl⟩
theorem d_Gr_named_14 : decode m_Gr_named.2.1 14 = .ok (.iload_n 3, 1) := by decide +kernel
theorem d_Gr_named_15 : decode m_Gr_named.2.1 15 = .ok (.laload, 1) := by decide +kernel
theorem d_Gr_named_16 : decode m_Gr_named.2.1 16 = .ok (.lload_n 1, 1) := by decide +kernel
theorem d_Gr_named_17 : decode m_Gr_named.2.1 17 = .ok (.lcmp, 1) := by decide +kernel
theorem d_Gr_named_18 : decode m_Gr_named.2.1 18 = .ok (.ifCond .ne 5, 3) := by decide +kernel
theorem d_Gr_named_23 : decode m_Gr_named.2.1 23 = .ok (.iinc 3 1, 3) := by decide +kernel
theorem d_Gr_named_26 : decode m_Gr_named.2.1 26 = .ok (.goto (-24), 3) := by decide +kernel
theorem d_Gr_named_21 : decode m_Gr_named.2.1 21 = .ok (.iload_n 3, 1) := by decide +kernel
theorem d_Gr_named_22 : decode m_Gr_named.2.1 22 = .ok (.ireturn, 1) := by decide +kernel
abbrev m_Gr_join : aw_MI := (⟨"MaypoleGreen$Green", "join", "(JI)V"⟩, prog_4_method_5_code, 4, none)
theorem k_Gr_join : aw_K m_Gr_join 2 := ⟨aw_in 648 (by decide +kernel) rfl, aw_in 3 (by decide +kernel) rfl, ⟨by decide, by decide, by decide +kernel⟩, by decide, by decide +kernel⟩
theorem d_Gr_join_0 : decode m_Gr_join.2.1 0 = .ok (.aload_n 0, 1) := by decide +kernel
theorem d_Gr_join_1 : decode m_Gr_join.2.1 1 = .ok (.getfield 54, 3) := by decide +kernel
theorem d_Gr_join_4 : decode m_Gr_join.2.1 4 = .ok (.bipush 7, 2) := by decide +kernel
theorem d_Gr_join_6 : decode m_Gr_join.2.1 6 = .ok (.if_icmp .lt 4, 3) := by decide +kernel
theorem d_Gr_join_10 : decode m_Gr_join.2.1 10 = .ok (.aload_n 0, 1) := by decide +kernel
theorem d_Gr_join_11 : decode m_Gr_join.2.1 11 = .ok (.getfield 9, 3) := by decide +kernel
theorem d_Gr_join_14 : decode m_Gr_join.2.1 14 = .ok (.aload_n 0, 1) := by decide +kernel
theorem d_Gr_join_15 : decode m_Gr_join.2.1 15 = .ok (.getfield 54, 3) := by decide +kernel
theorem d_Gr_join_18 : decode m_Gr_join.2.1 18 = .ok (.lload_n 1, 1) := by decide +kernel
theorem d_Gr_join_19 : decode m_Gr_join.2.1 19 = .ok (.lastore, 1) := by decide +kernel
theorem d_Gr_join_20 : decode m_Gr_join.2.1 20 = .ok (.aload_n 0, 1) := by decide +kernel
theorem d_Gr_join_21 : decode m_Gr_join.2.1 21 = .ok (.getfield 15, 3) := by decide +kernel
theorem f_Gr_15 : aw_F "MaypoleGreen$Green" 15 2 6 true := ⟨cR2, cT2, 13, fun k => cY2.getD k .int, rfl, ci2, cy2, cn2, rfl, by decide, aw_in 140 (by decide +kernel) rfl, rfl, rfl, rfl⟩
theorem d_Gr_join_24 : decode m_Gr_join.2.1 24 = .ok (.aload_n 0, 1) := by decide +kernel
theorem d_Gr_join_25 : decode m_Gr_join.2.1 25 = .ok (.getfield 54, 3) := by decide +kernel
theorem d_Gr_join_28 : decode m_Gr_join.2.1 28 = .ok (.iload_n 3, 1) := by decide +kernel
theorem d_Gr_join_29 : decode m_Gr_join.2.1 29 = .ok (.iastore, 1) := by decide +kernel
theorem d_Gr_join_30 : decode m_Gr_join.2.1 30 = .ok (.aload_n 0, 1) := by decide +kernel
theorem d_Gr_join_31 : decode m_Gr_join.2.1 31 = .ok (.getfield 19, 3) := by decide +kernel
theorem f_Gr_19 : aw_F "MaypoleGreen$Green" 19 2 7 true := ⟨cR2, cT2, 13, fun k => cY2.getD k .int, rfl, ci2, cy2, cn2, rfl, by decide, aw_in 143 (by decide +kernel) rfl, rfl, rfl, rfl⟩
theorem d_Gr_join_34 : decode m_Gr_join.2.1 34 = .ok (.aload_n 0, 1) := by decide +kernel
theorem d_Gr_join_35 : decode m_Gr_join.2.1 35 = .ok (.getfield 54, 3) := by decide +kernel
theorem d_Gr_join_38 : decode m_Gr_join.2.1 38 = .ok (.aload_n 0, 1) := by decide +kernel
theorem d_Gr_join_39 : decode m_Gr_join.2.1 39 = .ok (.getfield 54, 3) := by decide +kernel
theorem d_Gr_join_42 : decode m_Gr_join.2.1 42 = .ok (.iastore, 1) := by decide +kernel
theorem d_Gr_join_43 : decode m_Gr_join.2.1 43 = .ok (.aload_n 0, 1) := by decide +kernel
theorem d_Gr_join_44 : decode m_Gr_join.2.1 44 = .ok (.getfield 22, 3) := by decide +kernel
theorem f_Gr_22 : aw_F "MaypoleGreen$Green" 22 2 8 true := ⟨cR2, cT2, 13, fun k => cY2.getD k .int, rfl, ci2, cy2, cn2, rfl, by decide, aw_in 146 (by decide +kernel) rfl, rfl, rfl, rfl⟩
theorem d_Gr_join_47 : decode m_Gr_join.2.1 47 = .ok (.aload_n 0, 1) := by decide +kernel
theorem d_Gr_join_48 : decode m_Gr_join.2.1 48 = .ok (.getfield 54, 3) := by decide +kernel
theorem d_Gr_join_51 : decode m_Gr_join.2.1 51 = .ok (.iconst 0, 1) := by decide +kernel
theorem d_Gr_join_52 : decode m_Gr_join.2.1 52 = .ok (.iastore, 1) := by decide +kernel
theorem d_Gr_join_53 : decode m_Gr_join.2.1 53 = .ok (.aload_n 0, 1) := by decide +kernel
theorem d_Gr_join_54 : decode m_Gr_join.2.1 54 = .ok (.getfield 25, 3) := by decide +kernel
theorem f_Gr_25 : aw_F "MaypoleGreen$Green" 25 2 9 true := ⟨cR2, cT2, 13, fun k => cY2.getD k .int, rfl, ci2, cy2, cn2, rfl, by decide, aw_in 148 (by decide +kernel) rfl, rfl, rfl, rfl⟩
theorem d_Gr_join_57 : decode m_Gr_join.2.1 57 = .ok (.aload_n 0, 1) := by decide +kernel
theorem d_Gr_join_58 : decode m_Gr_join.2.1 58 = .ok (.getfield 54, 3) := by decide +kernel
theorem d_Gr_join_61 : decode m_Gr_join.2.1 61 = .ok (.aload_n 0, 1) := by decide +kernel
theorem d_Gr_join_62 : decode m_Gr_join.2.1 62 = .ok (.getfield 54, 3) := by decide +kernel
theorem d_Gr_join_65 : decode m_Gr_join.2.1 65 = .ok (.iastore, 1) := by decide +kernel
theorem d_Gr_join_66 : decode m_Gr_join.2.1 66 = .ok (.aload_n 0, 1) := by decide +kernel
theorem d_Gr_join_67 : decode m_Gr_join.2.1 67 = .ok (.dup, 1) := by decide +kernel
theorem d_Gr_join_68 : decode m_Gr_join.2.1 68 = .ok (.getfield 54, 3) := by decide +kernel
theorem d_Gr_join_71 : decode m_Gr_join.2.1 71 = .ok (.iconst 1, 1) := by decide +kernel
theorem d_Gr_join_72 : decode m_Gr_join.2.1 72 = .ok (.iadd, 1) := by decide +kernel
theorem d_Gr_join_73 : decode m_Gr_join.2.1 73 = .ok (.putfield 54, 3) := by decide +kernel
theorem d_Gr_join_76 : decode m_Gr_join.2.1 76 = .ok (.return_, 1) := by decide +kernel
theorem d_Gr_join_9 : decode m_Gr_join.2.1 9 = .ok (.return_, 1) := by decide +kernel
abbrev m_Gr_gaps : aw_MI := (⟨"MaypoleGreen$Green", "gaps", "()I"⟩, prog_4_method_7_code, 1, some .int)
theorem k_Gr_gaps : aw_K m_Gr_gaps 0 := ⟨aw_in 656 (by decide +kernel) rfl, aw_in 3 (by decide +kernel) rfl, ⟨by decide, by decide, by decide +kernel⟩, by decide, by decide +kernel⟩
theorem d_Gr_gaps_0 : decode m_Gr_gaps.2.1 0 = .ok (.aload_n 0, 1) := by decide +kernel
theorem d_Gr_gaps_1 : decode m_Gr_gaps.2.1 1 = .ok (.getfield 54, 3) := by decide +kernel
theorem d_Gr_gaps_4 : decode m_Gr_gaps.2.1 4 = .ok (.iconst 2, 1) := by decide +kernel
theorem d_Gr_gaps_5 : decode m_Gr_gaps.2.1 5 = .ok (.if_icmp .ge 5, 3) := by decide +kernel
theorem d_Gr_gaps_10 : decode m_Gr_gaps.2.1 10 = .ok (.aload_n 0, 1) := by decide +kernel
theorem d_Gr_gaps_11 : decode m_Gr_gaps.2.1 11 = .ok (.getfield 54, 3) := by decide +kernel
theorem d_Gr_gaps_14 : decode m_Gr_gaps.2.1 14 = .ok (.iconst 2, 1) := by decide +kernel
theorem d_Gr_gaps_15 : decode m_Gr_gaps.2.1 15 = .ok (.if_icmp .ne 7, 3) := by decide +kernel
theorem d_Gr_gaps_22 : decode m_Gr_gaps.2.1 22 = .ok (.aload_n 0, 1) := by decide +kernel
theorem d_Gr_gaps_23 : decode m_Gr_gaps.2.1 23 = .ok (.getfield 54, 3) := by decide +kernel
theorem d_Gr_gaps_26 : decode m_Gr_gaps.2.1 26 = .ok (.ireturn, 1) := by decide +kernel
theorem d_Gr_gaps_18 : decode m_Gr_gaps.2.1 18 = .ok (.iconst 1, 1) := by decide +kernel
theorem d_Gr_gaps_19 : decode m_Gr_gaps.2.1 19 = .ok (.goto 7, 3) := by decide +kernel
theorem d_Gr_gaps_8 : decode m_Gr_gaps.2.1 8 = .ok (.iconst 0, 1) := by decide +kernel
theorem d_Gr_gaps_9 : decode m_Gr_gaps.2.1 9 = .ok (.ireturn, 1) := by decide +kernel
abbrev m_Gr_makePass : aw_MI := (⟨"MaypoleGreen$Green", "makePass", "(I)I"⟩, prog_4_method_13_code, 8, some .int)
theorem k_Gr_makePass : aw_K m_Gr_makePass 1 := ⟨aw_in 664 (by decide +kernel) rfl, aw_in 3 (by decide +kernel) rfl, ⟨by decide, by decide, by decide +kernel⟩, by decide, by decide +kernel⟩
theorem d_Gr_makePass_0 : decode m_Gr_makePass.2.1 0 = .ok (.iload_n 1, 1) := by decide +kernel
theorem d_Gr_makePass_1 : decode m_Gr_makePass.2.1 1 = .ok (.iconst 1, 1) := by decide +kernel
theorem d_Gr_makePass_2 : decode m_Gr_makePass.2.1 2 = .ok (.ishr, 1) := by decide +kernel
theorem d_Gr_makePass_3 : decode m_Gr_makePass.2.1 3 = .ok (.istore_n 2, 1) := by decide +kernel
theorem d_Gr_makePass_4 : decode m_Gr_makePass.2.1 4 = .ok (.iload_n 1, 1) := by decide +kernel
theorem d_Gr_makePass_5 : decode m_Gr_makePass.2.1 5 = .ok (.iconst 1, 1) := by decide +kernel
theorem d_Gr_makePass_6 : decode m_Gr_makePass.2.1 6 = .ok (.iand, 1) := by decide +kernel
theorem d_Gr_makePass_7 : decode m_Gr_makePass.2.1 7 = .ok (.istore_n 3, 1) := by decide +kernel
theorem d_Gr_makePass_8 : decode m_Gr_makePass.2.1 8 = .ok (.aload_n 0, 1) := by decide +kernel
theorem d_Gr_makePass_9 : decode m_Gr_makePass.2.1 9 = .ok (.getfield 33, 3) := by decide +kernel
theorem d_Gr_makePass_12 : decode m_Gr_makePass.2.1 12 = .ok (.iload_n 2, 1) := by decide +kernel
theorem d_Gr_makePass_13 : decode m_Gr_makePass.2.1 13 = .ok (.iload_n 3, 1) := by decide +kernel
theorem d_Gr_makePass_14 : decode m_Gr_makePass.2.1 14 = .ok (.aload_n 0, 1) := by decide +kernel
theorem d_Gr_makePass_15 : decode m_Gr_makePass.2.1 15 = .ok (.iload_n 2, 1) := by decide +kernel
theorem d_Gr_makePass_16 : decode m_Gr_makePass.2.1 16 = .ok (.invokevirtual 92, 3) := by decide +kernel
abbrev m_Gr_touching : aw_MI := (⟨"MaypoleGreen$Green", "touching", "(I)I"⟩, prog_4_method_10_code, 3, some .int)
theorem lk_Gr_92 : Cond.methodLink "MaypoleGreen$Green" 92 m_Gr_touching.1 ∈ aw_T := aw_in 665 (by decide +kernel) rfl
theorem k_Gr_touching : aw_K m_Gr_touching 1 := ⟨aw_in 668 (by decide +kernel) rfl, aw_in 3 (by decide +kernel) rfl, ⟨by decide, by decide, by decide +kernel⟩, by decide, by decide +kernel⟩
theorem in_Gr_touching : Cond.instanceMethod m_Gr_touching.1 ∈ aw_T := aw_in 666 (by decide +kernel) rfl
theorem se_Gr_touching : Cond.selects m_Gr_touching.1.cls m_Gr_touching.1 m_Gr_touching.1 ∈ aw_T := aw_in 667 (by decide +kernel) rfl
theorem d_Gr_makePass_19 : decode m_Gr_makePass.2.1 19 = .ok (.invokevirtual 95, 3) := by decide +kernel
theorem lk_Gr_95 : Cond.methodLink "MaypoleGreen$Green" 95 m_Pl_undoneBy.1 ∈ aw_T := aw_in 673 (by decide +kernel) rfl
theorem in_Pl_undoneBy : Cond.instanceMethod m_Pl_undoneBy.1 ∈ aw_T := aw_in 674 (by decide +kernel) rfl
theorem se_Pl_undoneBy : Cond.selects m_Pl_undoneBy.1.cls m_Pl_undoneBy.1 m_Pl_undoneBy.1 ∈ aw_T := aw_in 675 (by decide +kernel) rfl
theorem d_Gr_makePass_22 : decode m_Gr_makePass.2.1 22 = .ok (.istore 4, 2) := by decide +kernel
theorem d_Gr_makePass_24 : decode m_Gr_makePass.2.1 24 = .ok (.iload 4, 2) := by decide +kernel
theorem d_Gr_makePass_26 : decode m_Gr_makePass.2.1 26 = .ok (.iconst (-1), 1) := by decide +kernel
theorem d_Gr_makePass_27 : decode m_Gr_makePass.2.1 27 = .ok (.if_icmp .eq 42, 3) := by decide +kernel
theorem d_Gr_makePass_69 : decode m_Gr_makePass.2.1 69 = .ok (.aload_n 0, 1) := by decide +kernel
theorem d_Gr_makePass_70 : decode m_Gr_makePass.2.1 70 = .ok (.iload_n 2, 1) := by decide +kernel
theorem d_Gr_makePass_71 : decode m_Gr_makePass.2.1 71 = .ok (.invokevirtual 105, 3) := by decide +kernel
abbrev m_Gr_canAdd : aw_MI := (⟨"MaypoleGreen$Green", "canAdd", "(I)Z"⟩, prog_4_method_12_code, 3, some .boolean)
theorem lk_Gr_105 : Cond.methodLink "MaypoleGreen$Green" 105 m_Gr_canAdd.1 ∈ aw_T := aw_in 702 (by decide +kernel) rfl
theorem k_Gr_canAdd : aw_K m_Gr_canAdd 1 := ⟨aw_in 705 (by decide +kernel) rfl, aw_in 3 (by decide +kernel) rfl, ⟨by decide, by decide, by decide +kernel⟩, by decide, by decide +kernel⟩
theorem in_Gr_canAdd : Cond.instanceMethod m_Gr_canAdd.1 ∈ aw_T := aw_in 703 (by decide +kernel) rfl
theorem se_Gr_canAdd : Cond.selects m_Gr_canAdd.1.cls m_Gr_canAdd.1 m_Gr_canAdd.1 ∈ aw_T := aw_in 704 (by decide +kernel) rfl
theorem d_Gr_makePass_74 : decode m_Gr_makePass.2.1 74 = .ok (.ifCond .ne 5, 3) := by decide +kernel
theorem d_Gr_makePass_79 : decode m_Gr_makePass.2.1 79 = .ok (.aload_n 0, 1) := by decide +kernel
theorem d_Gr_makePass_80 : decode m_Gr_makePass.2.1 80 = .ok (.getfield 25, 3) := by decide +kernel
theorem d_Gr_makePass_83 : decode m_Gr_makePass.2.1 83 = .ok (.iload_n 2, 1) := by decide +kernel
theorem d_Gr_makePass_84 : decode m_Gr_makePass.2.1 84 = .ok (.iaload, 1) := by decide +kernel
theorem d_Gr_makePass_85 : decode m_Gr_makePass.2.1 85 = .ok (.istore 5, 2) := by decide +kernel
theorem d_Gr_makePass_87 : decode m_Gr_makePass.2.1 87 = .ok (.aload_n 0, 1) := by decide +kernel
theorem d_Gr_makePass_88 : decode m_Gr_makePass.2.1 88 = .ok (.getfield 25, 3) := by decide +kernel
theorem d_Gr_makePass_91 : decode m_Gr_makePass.2.1 91 = .ok (.aload_n 0, 1) := by decide +kernel
theorem d_Gr_makePass_92 : decode m_Gr_makePass.2.1 92 = .ok (.iload_n 2, 1) := by decide +kernel
theorem d_Gr_makePass_93 : decode m_Gr_makePass.2.1 93 = .ok (.invokevirtual 82, 3) := by decide +kernel
abbrev m_Gr_nextPlace : aw_MI := (⟨"MaypoleGreen$Green", "nextPlace", "(I)I"⟩, prog_4_method_8_code, 2, some .int)
theorem lk_Gr_82 : Cond.methodLink "MaypoleGreen$Green" 82 m_Gr_nextPlace.1 ∈ aw_T := aw_in 669 (by decide +kernel) rfl
theorem k_Gr_nextPlace : aw_K m_Gr_nextPlace 1 := ⟨aw_in 672 (by decide +kernel) rfl, aw_in 3 (by decide +kernel) rfl, ⟨by decide, by decide, by decide +kernel⟩, by decide, by decide +kernel⟩
theorem in_Gr_nextPlace : Cond.instanceMethod m_Gr_nextPlace.1 ∈ aw_T := aw_in 670 (by decide +kernel) rfl
theorem se_Gr_nextPlace : Cond.selects m_Gr_nextPlace.1.cls m_Gr_nextPlace.1 m_Gr_nextPlace.1 ∈ aw_T := aw_in 671 (by decide +kernel) rfl
theorem d_Gr_makePass_96 : decode m_Gr_makePass.2.1 96 = .ok (.iaload, 1) := by decide +kernel
theorem d_Gr_makePass_97 : decode m_Gr_makePass.2.1 97 = .ok (.istore 6, 2) := by decide +kernel
theorem d_Gr_makePass_99 : decode m_Gr_makePass.2.1 99 = .ok (.iload_n 3, 1) := by decide +kernel
theorem d_Gr_makePass_100 : decode m_Gr_makePass.2.1 100 = .ok (.iconst 1, 1) := by decide +kernel
theorem d_Gr_makePass_101 : decode m_Gr_makePass.2.1 101 = .ok (.if_icmp .ne 8, 3) := by decide +kernel
theorem d_Gr_makePass_109 : decode m_Gr_makePass.2.1 109 = .ok (.iload 6, 2) := by decide +kernel
theorem d_Gr_makePass_111 : decode m_Gr_makePass.2.1 111 = .ok (.istore 7, 2) := by decide +kernel
theorem d_Gr_makePass_113 : decode m_Gr_makePass.2.1 113 = .ok (.aload_n 0, 1) := by decide +kernel
theorem d_Gr_makePass_114 : decode m_Gr_makePass.2.1 114 = .ok (.aload_n 0, 1) := by decide +kernel
theorem d_Gr_makePass_115 : decode m_Gr_makePass.2.1 115 = .ok (.getfield 33, 3) := by decide +kernel
theorem d_Gr_makePass_118 : decode m_Gr_makePass.2.1 118 = .ok (.getfield 57, 3) := by decide +kernel
theorem d_Gr_makePass_121 : decode m_Gr_makePass.2.1 121 = .ok (.iload_n 2, 1) := by decide +kernel
theorem d_Gr_makePass_122 : decode m_Gr_makePass.2.1 122 = .ok (.iload_n 3, 1) := by decide +kernel
theorem d_Gr_makePass_123 : decode m_Gr_makePass.2.1 123 = .ok (.iload 7, 2) := by decide +kernel
theorem d_Gr_makePass_125 : decode m_Gr_makePass.2.1 125 = .ok (.iload 5, 2) := by decide +kernel
theorem d_Gr_makePass_127 : decode m_Gr_makePass.2.1 127 = .ok (.iload 6, 2) := by decide +kernel
theorem d_Gr_makePass_129 : decode m_Gr_makePass.2.1 129 = .ok (.iadd, 1) := by decide +kernel
theorem d_Gr_makePass_130 : decode m_Gr_makePass.2.1 130 = .ok (.iload 7, 2) := by decide +kernel
theorem d_Gr_makePass_132 : decode m_Gr_makePass.2.1 132 = .ok (.isub, 1) := by decide +kernel
theorem d_Gr_makePass_133 : decode m_Gr_makePass.2.1 133 = .ok (.invokestatic 109, 3) := by decide +kernel
theorem lk_Gr_109 : Cond.methodLink "MaypoleGreen$Green" 109 m_Pl_packed.1 ∈ aw_T := aw_in 706 (by decide +kernel) rfl
theorem st_Pl_packed : Cond.static m_Pl_packed.1 ∈ aw_T := aw_in 707 (by decide +kernel) rfl
theorem d_Gr_makePass_136 : decode m_Gr_makePass.2.1 136 = .ok (.invokevirtual 113, 3) := by decide +kernel
abbrev m_Gr_insertPass : aw_MI := (⟨"MaypoleGreen$Green", "insertPass", "(II)V"⟩, prog_4_method_17_code, 3, none)
theorem lk_Gr_113 : Cond.methodLink "MaypoleGreen$Green" 113 m_Gr_insertPass.1 ∈ aw_T := aw_in 709 (by decide +kernel) rfl
theorem k_Gr_insertPass : aw_K m_Gr_insertPass 2 := ⟨aw_in 712 (by decide +kernel) rfl, aw_in 3 (by decide +kernel) rfl, ⟨by decide, by decide, by decide +kernel⟩, by decide, by decide +kernel⟩
theorem in_Gr_insertPass : Cond.instanceMethod m_Gr_insertPass.1 ∈ aw_T := aw_in 711 (by decide +kernel) rfl
theorem se_Gr_insertPass : Cond.selects m_Gr_insertPass.1.cls m_Gr_insertPass.1 m_Gr_insertPass.1 ∈ aw_T := aw_inP 16 (by decide +kernel) rfl
theorem d_Gr_makePass_139 : decode m_Gr_makePass.2.1 139 = .ok (.aload_n 0, 1) := by decide +kernel
theorem d_Gr_makePass_140 : decode m_Gr_makePass.2.1 140 = .ok (.dup, 1) := by decide +kernel
theorem d_Gr_makePass_141 : decode m_Gr_makePass.2.1 141 = .ok (.getfield 66, 3) := by decide +kernel
theorem d_Gr_makePass_144 : decode m_Gr_makePass.2.1 144 = .ok (.iconst 1, 1) := by decide +kernel
theorem d_Gr_makePass_145 : decode m_Gr_makePass.2.1 145 = .ok (.iadd, 1) := by decide +kernel
theorem d_Gr_makePass_146 : decode m_Gr_makePass.2.1 146 = .ok (.putfield 66, 3) := by decide +kernel
theorem d_Gr_makePass_149 : decode m_Gr_makePass.2.1 149 = .ok (.iconst 0, 1) := by decide +kernel
theorem d_Gr_makePass_150 : decode m_Gr_makePass.2.1 150 = .ok (.ireturn, 1) := by decide +kernel
theorem d_Gr_makePass_104 : decode m_Gr_makePass.2.1 104 = .ok (.iload 5, 2) := by decide +kernel
theorem d_Gr_makePass_106 : decode m_Gr_makePass.2.1 106 = .ok (.goto 5, 3) := by decide +kernel
theorem d_Gr_makePass_77 : decode m_Gr_makePass.2.1 77 = .ok (.iconst (-1), 1) := by decide +kernel
theorem d_Gr_makePass_78 : decode m_Gr_makePass.2.1 78 = .ok (.ireturn, 1) := by decide +kernel
theorem d_Gr_makePass_30 : decode m_Gr_makePass.2.1 30 = .ok (.aload_n 0, 1) := by decide +kernel
theorem d_Gr_makePass_31 : decode m_Gr_makePass.2.1 31 = .ok (.getfield 33, 3) := by decide +kernel
theorem d_Gr_makePass_34 : decode m_Gr_makePass.2.1 34 = .ok (.getfield 99, 3) := by decide +kernel
theorem f_Gr_99 : aw_F "MaypoleGreen$Green" 99 3 0 true := ⟨cR3, cT3, 2, fun k => cY3.getD k .int, rfl, ci3, cy3, cn3, rfl, by decide, aw_in 69 (by decide +kernel) rfl, rfl, rfl, rfl⟩
theorem d_Gr_makePass_37 : decode m_Gr_makePass.2.1 37 = .ok (.iload 4, 2) := by decide +kernel
theorem d_Gr_makePass_39 : decode m_Gr_makePass.2.1 39 = .ok (.iaload, 1) := by decide +kernel
theorem d_Gr_makePass_40 : decode m_Gr_makePass.2.1 40 = .ok (.istore 5, 2) := by decide +kernel
theorem d_Gr_makePass_42 : decode m_Gr_makePass.2.1 42 = .ok (.aload_n 0, 1) := by decide +kernel
theorem d_Gr_makePass_43 : decode m_Gr_makePass.2.1 43 = .ok (.iload 4, 2) := by decide +kernel
theorem d_Gr_makePass_45 : decode m_Gr_makePass.2.1 45 = .ok (.invokevirtual 102, 3) := by decide +kernel
abbrev m_Gr_removePass : aw_MI := (⟨"MaypoleGreen$Green", "removePass", "(I)V"⟩, prog_4_method_18_code, 2, none)
theorem lk_Gr_102 : Cond.methodLink "MaypoleGreen$Green" 102 m_Gr_removePass.1 ∈ aw_T := aw_in 677 (by decide +kernel) rfl
theorem k_Gr_removePass : aw_K m_Gr_removePass 1 := ⟨aw_in 680 (by decide +kernel) rfl, aw_in 3 (by decide +kernel) rfl, ⟨by decide, by decide, by decide +kernel⟩, by decide, by decide +kernel⟩
theorem in_Gr_removePass : Cond.instanceMethod m_Gr_removePass.1 ∈ aw_T := aw_in 679 (by decide +kernel) rfl
theorem se_Gr_removePass : Cond.selects m_Gr_removePass.1.cls m_Gr_removePass.1 m_Gr_removePass.1 ∈ aw_T := aw_inP 14 (by decide +kernel) rfl
theorem d_Gr_makePass_48 : decode m_Gr_makePass.2.1 48 = .ok (.aload_n 0, 1) := by decide +kernel
theorem d_Gr_makePass_49 : decode m_Gr_makePass.2.1 49 = .ok (.dup, 1) := by decide +kernel
theorem d_Gr_makePass_50 : decode m_Gr_makePass.2.1 50 = .ok (.getfield 69, 3) := by decide +kernel
theorem d_Gr_makePass_53 : decode m_Gr_makePass.2.1 53 = .ok (.iconst 1, 1) := by decide +kernel
theorem d_Gr_makePass_54 : decode m_Gr_makePass.2.1 54 = .ok (.iadd, 1) := by decide +kernel
theorem d_Gr_makePass_55 : decode m_Gr_makePass.2.1 55 = .ok (.putfield 69, 3) := by decide +kernel
theorem d_Gr_makePass_58 : decode m_Gr_makePass.2.1 58 = .ok (.iconst 1, 1) := by decide +kernel
theorem d_Gr_makePass_59 : decode m_Gr_makePass.2.1 59 = .ok (.iload 4, 2) := by decide +kernel
theorem d_Gr_makePass_61 : decode m_Gr_makePass.2.1 61 = .ok (.bipush 10, 2) := by decide +kernel
theorem d_Gr_makePass_63 : decode m_Gr_makePass.2.1 63 = .ok (.ishl, 1) := by decide +kernel
theorem d_Gr_makePass_64 : decode m_Gr_makePass.2.1 64 = .ok (.iload 5, 2) := by decide +kernel
theorem d_Gr_makePass_66 : decode m_Gr_makePass.2.1 66 = .ok (.ior, 1) := by decide +kernel
theorem d_Gr_makePass_67 : decode m_Gr_makePass.2.1 67 = .ok (.iadd, 1) := by decide +kernel
theorem d_Gr_makePass_68 : decode m_Gr_makePass.2.1 68 = .ok (.ireturn, 1) := by decide +kernel
theorem d_Gr_touching_0 : decode m_Gr_touching.2.1 0 = .ok (.iload_n 1, 1) := by decide +kernel
theorem d_Gr_touching_1 : decode m_Gr_touching.2.1 1 = .ok (.ifCond .ne 12, 3) := by decide +kernel
theorem d_Gr_touching_13 : decode m_Gr_touching.2.1 13 = .ok (.iload_n 1, 1) := by decide +kernel
theorem d_Gr_touching_14 : decode m_Gr_touching.2.1 14 = .ok (.iconst 1, 1) := by decide +kernel
theorem d_Gr_touching_15 : decode m_Gr_touching.2.1 15 = .ok (.isub, 1) := by decide +kernel
theorem d_Gr_touching_16 : decode m_Gr_touching.2.1 16 = .ok (.istore_n 2, 1) := by decide +kernel
theorem d_Gr_touching_17 : decode m_Gr_touching.2.1 17 = .ok (.iconst 1, 1) := by decide +kernel
theorem d_Gr_touching_18 : decode m_Gr_touching.2.1 18 = .ok (.iload_n 1, 1) := by decide +kernel
theorem d_Gr_touching_19 : decode m_Gr_touching.2.1 19 = .ok (.ishl, 1) := by decide +kernel
theorem d_Gr_touching_20 : decode m_Gr_touching.2.1 20 = .ok (.iconst 1, 1) := by decide +kernel
theorem d_Gr_touching_21 : decode m_Gr_touching.2.1 21 = .ok (.iload_n 2, 1) := by decide +kernel
theorem d_Gr_touching_22 : decode m_Gr_touching.2.1 22 = .ok (.ishl, 1) := by decide +kernel
theorem d_Gr_touching_23 : decode m_Gr_touching.2.1 23 = .ok (.ior, 1) := by decide +kernel
theorem d_Gr_touching_24 : decode m_Gr_touching.2.1 24 = .ok (.iconst 1, 1) := by decide +kernel
theorem d_Gr_touching_25 : decode m_Gr_touching.2.1 25 = .ok (.aload_n 0, 1) := by decide +kernel
theorem d_Gr_touching_26 : decode m_Gr_touching.2.1 26 = .ok (.iload_n 1, 1) := by decide +kernel
theorem d_Gr_touching_27 : decode m_Gr_touching.2.1 27 = .ok (.invokevirtual 82, 3) := by decide +kernel
theorem d_Gr_touching_30 : decode m_Gr_touching.2.1 30 = .ok (.ishl, 1) := by decide +kernel
theorem d_Gr_touching_31 : decode m_Gr_touching.2.1 31 = .ok (.ior, 1) := by decide +kernel
theorem d_Gr_touching_32 : decode m_Gr_touching.2.1 32 = .ok (.ireturn, 1) := by decide +kernel
theorem d_Gr_touching_4 : decode m_Gr_touching.2.1 4 = .ok (.aload_n 0, 1) := by decide +kernel
theorem d_Gr_touching_5 : decode m_Gr_touching.2.1 5 = .ok (.getfield 54, 3) := by decide +kernel
theorem d_Gr_touching_8 : decode m_Gr_touching.2.1 8 = .ok (.iconst 1, 1) := by decide +kernel
theorem d_Gr_touching_9 : decode m_Gr_touching.2.1 9 = .ok (.isub, 1) := by decide +kernel
theorem d_Gr_touching_10 : decode m_Gr_touching.2.1 10 = .ok (.goto 6, 3) := by decide +kernel
theorem d_Gr_nextPlace_0 : decode m_Gr_nextPlace.2.1 0 = .ok (.iload_n 1, 1) := by decide +kernel
theorem d_Gr_nextPlace_1 : decode m_Gr_nextPlace.2.1 1 = .ok (.iconst 1, 1) := by decide +kernel
theorem d_Gr_nextPlace_2 : decode m_Gr_nextPlace.2.1 2 = .ok (.iadd, 1) := by decide +kernel
theorem d_Gr_nextPlace_3 : decode m_Gr_nextPlace.2.1 3 = .ok (.aload_n 0, 1) := by decide +kernel
theorem d_Gr_nextPlace_4 : decode m_Gr_nextPlace.2.1 4 = .ok (.getfield 54, 3) := by decide +kernel
theorem d_Gr_nextPlace_7 : decode m_Gr_nextPlace.2.1 7 = .ok (.if_icmp .lt 7, 3) := by decide +kernel
theorem d_Gr_nextPlace_14 : decode m_Gr_nextPlace.2.1 14 = .ok (.iload_n 1, 1) := by decide +kernel
theorem d_Gr_nextPlace_15 : decode m_Gr_nextPlace.2.1 15 = .ok (.iconst 1, 1) := by decide +kernel
theorem d_Gr_nextPlace_16 : decode m_Gr_nextPlace.2.1 16 = .ok (.iadd, 1) := by decide +kernel
theorem d_Gr_nextPlace_17 : decode m_Gr_nextPlace.2.1 17 = .ok (.ireturn, 1) := by decide +kernel
theorem d_Gr_nextPlace_10 : decode m_Gr_nextPlace.2.1 10 = .ok (.iconst 0, 1) := by decide +kernel
theorem d_Gr_nextPlace_11 : decode m_Gr_nextPlace.2.1 11 = .ok (.goto 6, 3) := by decide +kernel
theorem d_Gr_removePass_0 : decode m_Gr_removePass.2.1 0 = .ok (.aload_n 0, 1) := by decide +kernel
theorem d_Gr_removePass_1 : decode m_Gr_removePass.2.1 1 = .ok (.getfield 22, 3) := by decide +kernel
theorem d_Gr_removePass_4 : decode m_Gr_removePass.2.1 4 = .ok (.aload_n 0, 1) := by decide +kernel
theorem d_Gr_removePass_5 : decode m_Gr_removePass.2.1 5 = .ok (.getfield 33, 3) := by decide +kernel
theorem d_Gr_removePass_8 : decode m_Gr_removePass.2.1 8 = .ok (.iload_n 1, 1) := by decide +kernel
theorem d_Gr_removePass_9 : decode m_Gr_removePass.2.1 9 = .ok (.invokevirtual 127, 3) := by decide +kernel
theorem lk_Gr_127 : Cond.methodLink "MaypoleGreen$Green" 127 m_Pl_upperAt.1 ∈ aw_T := aw_in 681 (by decide +kernel) rfl
theorem d_Gr_removePass_12 : decode m_Gr_removePass.2.1 12 = .ok (.dup2, 1) := by decide +kernel
theorem d_Gr_removePass_13 : decode m_Gr_removePass.2.1 13 = .ok (.iaload, 1) := by decide +kernel
theorem d_Gr_removePass_14 : decode m_Gr_removePass.2.1 14 = .ok (.iconst 1, 1) := by decide +kernel
theorem d_Gr_removePass_15 : decode m_Gr_removePass.2.1 15 = .ok (.isub, 1) := by decide +kernel
theorem d_Gr_removePass_16 : decode m_Gr_removePass.2.1 16 = .ok (.iastore, 1) := by decide +kernel
theorem d_Gr_removePass_17 : decode m_Gr_removePass.2.1 17 = .ok (.aload_n 0, 1) := by decide +kernel
theorem d_Gr_removePass_18 : decode m_Gr_removePass.2.1 18 = .ok (.getfield 22, 3) := by decide +kernel
theorem d_Gr_removePass_21 : decode m_Gr_removePass.2.1 21 = .ok (.aload_n 0, 1) := by decide +kernel
theorem d_Gr_removePass_22 : decode m_Gr_removePass.2.1 22 = .ok (.getfield 33, 3) := by decide +kernel
theorem d_Gr_removePass_25 : decode m_Gr_removePass.2.1 25 = .ok (.iload_n 1, 1) := by decide +kernel
theorem d_Gr_removePass_26 : decode m_Gr_removePass.2.1 26 = .ok (.invokevirtual 130, 3) := by decide +kernel
theorem lk_Gr_130 : Cond.methodLink "MaypoleGreen$Green" 130 m_Pl_lowerAt.1 ∈ aw_T := aw_in 685 (by decide +kernel) rfl
theorem d_Gr_removePass_29 : decode m_Gr_removePass.2.1 29 = .ok (.dup2, 1) := by decide +kernel
theorem d_Gr_removePass_30 : decode m_Gr_removePass.2.1 30 = .ok (.iaload, 1) := by decide +kernel
theorem d_Gr_removePass_31 : decode m_Gr_removePass.2.1 31 = .ok (.iconst 1, 1) := by decide +kernel
theorem d_Gr_removePass_32 : decode m_Gr_removePass.2.1 32 = .ok (.isub, 1) := by decide +kernel
theorem d_Gr_removePass_33 : decode m_Gr_removePass.2.1 33 = .ok (.iastore, 1) := by decide +kernel
theorem d_Gr_removePass_34 : decode m_Gr_removePass.2.1 34 = .ok (.aload_n 0, 1) := by decide +kernel
theorem d_Gr_removePass_35 : decode m_Gr_removePass.2.1 35 = .ok (.aload_n 0, 1) := by decide +kernel
theorem d_Gr_removePass_36 : decode m_Gr_removePass.2.1 36 = .ok (.getfield 33, 3) := by decide +kernel
theorem d_Gr_removePass_39 : decode m_Gr_removePass.2.1 39 = .ok (.iload_n 1, 1) := by decide +kernel
theorem d_Gr_removePass_40 : decode m_Gr_removePass.2.1 40 = .ok (.invokevirtual 133, 3) := by decide +kernel
theorem lk_Gr_133 : Cond.methodLink "MaypoleGreen$Green" 133 m_Pl_gapAt.1 ∈ aw_T := aw_in 689 (by decide +kernel) rfl
theorem d_Gr_removePass_43 : decode m_Gr_removePass.2.1 43 = .ok (.invokevirtual 136, 3) := by decide +kernel
abbrev m_Gr_changePlaces : aw_MI := (⟨"MaypoleGreen$Green", "changePlaces", "(I)V"⟩, prog_4_method_19_code, 4, none)
theorem lk_Gr_136 : Cond.methodLink "MaypoleGreen$Green" 136 m_Gr_changePlaces.1 ∈ aw_T := aw_in 693 (by decide +kernel) rfl
theorem k_Gr_changePlaces : aw_K m_Gr_changePlaces 1 := ⟨aw_in 696 (by decide +kernel) rfl, aw_in 3 (by decide +kernel) rfl, ⟨by decide, by decide, by decide +kernel⟩, by decide, by decide +kernel⟩
theorem in_Gr_changePlaces : Cond.instanceMethod m_Gr_changePlaces.1 ∈ aw_T := aw_in 695 (by decide +kernel) rfl
theorem se_Gr_changePlaces : Cond.selects m_Gr_changePlaces.1.cls m_Gr_changePlaces.1 m_Gr_changePlaces.1 ∈ aw_T := aw_inP 15 (by decide +kernel) rfl
theorem d_Gr_removePass_46 : decode m_Gr_removePass.2.1 46 = .ok (.aload_n 0, 1) := by decide +kernel
theorem d_Gr_removePass_47 : decode m_Gr_removePass.2.1 47 = .ok (.getfield 33, 3) := by decide +kernel
theorem d_Gr_removePass_50 : decode m_Gr_removePass.2.1 50 = .ok (.iload_n 1, 1) := by decide +kernel
theorem d_Gr_removePass_51 : decode m_Gr_removePass.2.1 51 = .ok (.invokevirtual 139, 3) := by decide +kernel
theorem lk_Gr_139 : Cond.methodLink "MaypoleGreen$Green" 139 m_Pl_remove.1 ∈ aw_T := aw_in 697 (by decide +kernel) rfl
theorem in_Pl_remove : Cond.instanceMethod m_Pl_remove.1 ∈ aw_T := aw_in 698 (by decide +kernel) rfl
theorem se_Pl_remove : Cond.selects m_Pl_remove.1.cls m_Pl_remove.1 m_Pl_remove.1 ∈ aw_T := aw_in 699 (by decide +kernel) rfl
theorem d_Gr_removePass_54 : decode m_Gr_removePass.2.1 54 = .ok (.return_, 1) := by decide +kernel
theorem d_Gr_changePlaces_0 : decode m_Gr_changePlaces.2.1 0 = .ok (.aload_n 0, 1) := by decide +kernel
theorem d_Gr_changePlaces_1 : decode m_Gr_changePlaces.2.1 1 = .ok (.iload_n 1, 1) := by decide +kernel
theorem d_Gr_changePlaces_2 : decode m_Gr_changePlaces.2.1 2 = .ok (.invokevirtual 82, 3) := by decide +kernel
theorem d_Gr_changePlaces_5 : decode m_Gr_changePlaces.2.1 5 = .ok (.istore_n 2, 1) := by decide +kernel
theorem d_Gr_changePlaces_6 : decode m_Gr_changePlaces.2.1 6 = .ok (.aload_n 0, 1) := by decide +kernel
theorem d_Gr_changePlaces_7 : decode m_Gr_changePlaces.2.1 7 = .ok (.getfield 25, 3) := by decide +kernel
theorem d_Gr_changePlaces_10 : decode m_Gr_changePlaces.2.1 10 = .ok (.iload_n 1, 1) := by decide +kernel
theorem d_Gr_changePlaces_11 : decode m_Gr_changePlaces.2.1 11 = .ok (.iaload, 1) := by decide +kernel
theorem d_Gr_changePlaces_12 : decode m_Gr_changePlaces.2.1 12 = .ok (.istore_n 3, 1) := by decide +kernel
theorem d_Gr_changePlaces_13 : decode m_Gr_changePlaces.2.1 13 = .ok (.aload_n 0, 1) := by decide +kernel
theorem d_Gr_changePlaces_14 : decode m_Gr_changePlaces.2.1 14 = .ok (.getfield 25, 3) := by decide +kernel
theorem d_Gr_changePlaces_17 : decode m_Gr_changePlaces.2.1 17 = .ok (.iload_n 1, 1) := by decide +kernel
theorem d_Gr_changePlaces_18 : decode m_Gr_changePlaces.2.1 18 = .ok (.aload_n 0, 1) := by decide +kernel
theorem d_Gr_changePlaces_19 : decode m_Gr_changePlaces.2.1 19 = .ok (.getfield 25, 3) := by decide +kernel
theorem d_Gr_changePlaces_22 : decode m_Gr_changePlaces.2.1 22 = .ok (.iload_n 2, 1) := by decide +kernel
theorem d_Gr_changePlaces_23 : decode m_Gr_changePlaces.2.1 23 = .ok (.iaload, 1) := by decide +kernel
theorem d_Gr_changePlaces_24 : decode m_Gr_changePlaces.2.1 24 = .ok (.iastore, 1) := by decide +kernel
theorem d_Gr_changePlaces_25 : decode m_Gr_changePlaces.2.1 25 = .ok (.aload_n 0, 1) := by decide +kernel
theorem d_Gr_changePlaces_26 : decode m_Gr_changePlaces.2.1 26 = .ok (.getfield 25, 3) := by decide +kernel
theorem d_Gr_changePlaces_29 : decode m_Gr_changePlaces.2.1 29 = .ok (.iload_n 2, 1) := by decide +kernel
theorem d_Gr_changePlaces_30 : decode m_Gr_changePlaces.2.1 30 = .ok (.iload_n 3, 1) := by decide +kernel
theorem d_Gr_changePlaces_31 : decode m_Gr_changePlaces.2.1 31 = .ok (.iastore, 1) := by decide +kernel
theorem d_Gr_changePlaces_32 : decode m_Gr_changePlaces.2.1 32 = .ok (.aload_n 0, 1) := by decide +kernel
theorem d_Gr_changePlaces_33 : decode m_Gr_changePlaces.2.1 33 = .ok (.getfield 19, 3) := by decide +kernel
theorem d_Gr_changePlaces_36 : decode m_Gr_changePlaces.2.1 36 = .ok (.iload_n 3, 1) := by decide +kernel
theorem d_Gr_changePlaces_37 : decode m_Gr_changePlaces.2.1 37 = .ok (.iload_n 2, 1) := by decide +kernel
theorem d_Gr_changePlaces_38 : decode m_Gr_changePlaces.2.1 38 = .ok (.iastore, 1) := by decide +kernel
theorem d_Gr_changePlaces_39 : decode m_Gr_changePlaces.2.1 39 = .ok (.aload_n 0, 1) := by decide +kernel
theorem d_Gr_changePlaces_40 : decode m_Gr_changePlaces.2.1 40 = .ok (.getfield 19, 3) := by decide +kernel
theorem d_Gr_changePlaces_43 : decode m_Gr_changePlaces.2.1 43 = .ok (.aload_n 0, 1) := by decide +kernel
theorem d_Gr_changePlaces_44 : decode m_Gr_changePlaces.2.1 44 = .ok (.getfield 25, 3) := by decide +kernel
theorem d_Gr_changePlaces_47 : decode m_Gr_changePlaces.2.1 47 = .ok (.iload_n 1, 1) := by decide +kernel
theorem d_Gr_changePlaces_48 : decode m_Gr_changePlaces.2.1 48 = .ok (.iaload, 1) := by decide +kernel
theorem d_Gr_changePlaces_49 : decode m_Gr_changePlaces.2.1 49 = .ok (.iload_n 1, 1) := by decide +kernel
theorem d_Gr_changePlaces_50 : decode m_Gr_changePlaces.2.1 50 = .ok (.iastore, 1) := by decide +kernel
theorem d_Gr_changePlaces_51 : decode m_Gr_changePlaces.2.1 51 = .ok (.return_, 1) := by decide +kernel
theorem d_Gr_canAdd_0 : decode m_Gr_canAdd.2.1 0 = .ok (.aload_n 0, 1) := by decide +kernel
theorem d_Gr_canAdd_1 : decode m_Gr_canAdd.2.1 1 = .ok (.iload_n 1, 1) := by decide +kernel
theorem d_Gr_canAdd_2 : decode m_Gr_canAdd.2.1 2 = .ok (.invokevirtual 82, 3) := by decide +kernel
theorem d_Gr_canAdd_5 : decode m_Gr_canAdd.2.1 5 = .ok (.istore_n 2, 1) := by decide +kernel
theorem d_Gr_canAdd_6 : decode m_Gr_canAdd.2.1 6 = .ok (.aload_n 0, 1) := by decide +kernel
theorem d_Gr_canAdd_7 : decode m_Gr_canAdd.2.1 7 = .ok (.getfield 33, 3) := by decide +kernel
theorem d_Gr_canAdd_10 : decode m_Gr_canAdd.2.1 10 = .ok (.getfield 57, 3) := by decide +kernel
theorem d_Gr_canAdd_13 : decode m_Gr_canAdd.2.1 13 = .ok (.bipush 40, 2) := by decide +kernel
theorem d_Gr_canAdd_15 : decode m_Gr_canAdd.2.1 15 = .ok (.if_icmp .ge 43, 3) := by decide +kernel
theorem d_Gr_canAdd_58 : decode m_Gr_canAdd.2.1 58 = .ok (.iconst 0, 1) := by decide +kernel
theorem d_Gr_canAdd_59 : decode m_Gr_canAdd.2.1 59 = .ok (.ireturn, 1) := by decide +kernel
theorem d_Gr_canAdd_18 : decode m_Gr_canAdd.2.1 18 = .ok (.aload_n 0, 1) := by decide +kernel
theorem d_Gr_canAdd_19 : decode m_Gr_canAdd.2.1 19 = .ok (.getfield 22, 3) := by decide +kernel
theorem d_Gr_canAdd_22 : decode m_Gr_canAdd.2.1 22 = .ok (.aload_n 0, 1) := by decide +kernel
theorem d_Gr_canAdd_23 : decode m_Gr_canAdd.2.1 23 = .ok (.getfield 25, 3) := by decide +kernel
theorem d_Gr_canAdd_26 : decode m_Gr_canAdd.2.1 26 = .ok (.iload_n 1, 1) := by decide +kernel
theorem d_Gr_canAdd_27 : decode m_Gr_canAdd.2.1 27 = .ok (.iaload, 1) := by decide +kernel
theorem d_Gr_canAdd_28 : decode m_Gr_canAdd.2.1 28 = .ok (.iaload, 1) := by decide +kernel
theorem d_Gr_canAdd_29 : decode m_Gr_canAdd.2.1 29 = .ok (.aload_n 0, 1) := by decide +kernel
theorem d_Gr_canAdd_30 : decode m_Gr_canAdd.2.1 30 = .ok (.getfield 51, 3) := by decide +kernel
theorem d_Gr_canAdd_33 : decode m_Gr_canAdd.2.1 33 = .ok (.if_icmp .ge 25, 3) := by decide +kernel
theorem d_Gr_canAdd_36 : decode m_Gr_canAdd.2.1 36 = .ok (.aload_n 0, 1) := by decide +kernel
theorem d_Gr_canAdd_37 : decode m_Gr_canAdd.2.1 37 = .ok (.getfield 22, 3) := by decide +kernel
theorem d_Gr_canAdd_40 : decode m_Gr_canAdd.2.1 40 = .ok (.aload_n 0, 1) := by decide +kernel
theorem d_Gr_canAdd_41 : decode m_Gr_canAdd.2.1 41 = .ok (.getfield 25, 3) := by decide +kernel
theorem d_Gr_canAdd_44 : decode m_Gr_canAdd.2.1 44 = .ok (.iload_n 2, 1) := by decide +kernel
theorem d_Gr_canAdd_45 : decode m_Gr_canAdd.2.1 45 = .ok (.iaload, 1) := by decide +kernel
theorem d_Gr_canAdd_46 : decode m_Gr_canAdd.2.1 46 = .ok (.iaload, 1) := by decide +kernel
theorem d_Gr_canAdd_47 : decode m_Gr_canAdd.2.1 47 = .ok (.aload_n 0, 1) := by decide +kernel
theorem d_Gr_canAdd_48 : decode m_Gr_canAdd.2.1 48 = .ok (.getfield 51, 3) := by decide +kernel
theorem d_Gr_canAdd_51 : decode m_Gr_canAdd.2.1 51 = .ok (.if_icmp .ge 7, 3) := by decide +kernel
theorem d_Gr_canAdd_54 : decode m_Gr_canAdd.2.1 54 = .ok (.iconst 1, 1) := by decide +kernel
theorem d_Gr_canAdd_55 : decode m_Gr_canAdd.2.1 55 = .ok (.goto 4, 3) := by decide +kernel
theorem d_Gr_insertPass_0 : decode m_Gr_insertPass.2.1 0 = .ok (.aload_n 0, 1) := by decide +kernel
theorem d_Gr_insertPass_1 : decode m_Gr_insertPass.2.1 1 = .ok (.getfield 33, 3) := by decide +kernel
theorem d_Gr_insertPass_4 : decode m_Gr_insertPass.2.1 4 = .ok (.iload_n 1, 1) := by decide +kernel
theorem d_Gr_insertPass_5 : decode m_Gr_insertPass.2.1 5 = .ok (.iload_n 2, 1) := by decide +kernel
theorem d_Gr_insertPass_6 : decode m_Gr_insertPass.2.1 6 = .ok (.invokevirtual 124, 3) := by decide +kernel
theorem lk_Gr_124 : Cond.methodLink "MaypoleGreen$Green" 124 m_Pl_insert.1 ∈ aw_T := aw_in 713 (by decide +kernel) rfl
theorem d_Gr_insertPass_9 : decode m_Gr_insertPass.2.1 9 = .ok (.aload_n 0, 1) := by decide +kernel
theorem d_Gr_insertPass_10 : decode m_Gr_insertPass.2.1 10 = .ok (.getfield 22, 3) := by decide +kernel
theorem d_Gr_insertPass_13 : decode m_Gr_insertPass.2.1 13 = .ok (.aload_n 0, 1) := by decide +kernel
theorem d_Gr_insertPass_14 : decode m_Gr_insertPass.2.1 14 = .ok (.getfield 33, 3) := by decide +kernel
theorem d_Gr_insertPass_17 : decode m_Gr_insertPass.2.1 17 = .ok (.iload_n 1, 1) := by decide +kernel
theorem d_Gr_insertPass_18 : decode m_Gr_insertPass.2.1 18 = .ok (.invokevirtual 127, 3) := by decide +kernel
theorem d_Gr_insertPass_21 : decode m_Gr_insertPass.2.1 21 = .ok (.dup2, 1) := by decide +kernel
theorem d_Gr_insertPass_22 : decode m_Gr_insertPass.2.1 22 = .ok (.iaload, 1) := by decide +kernel
theorem d_Gr_insertPass_23 : decode m_Gr_insertPass.2.1 23 = .ok (.iconst 1, 1) := by decide +kernel
theorem d_Gr_insertPass_24 : decode m_Gr_insertPass.2.1 24 = .ok (.iadd, 1) := by decide +kernel
theorem d_Gr_insertPass_25 : decode m_Gr_insertPass.2.1 25 = .ok (.iastore, 1) := by decide +kernel
theorem d_Gr_insertPass_26 : decode m_Gr_insertPass.2.1 26 = .ok (.aload_n 0, 1) := by decide +kernel
theorem d_Gr_insertPass_27 : decode m_Gr_insertPass.2.1 27 = .ok (.getfield 22, 3) := by decide +kernel
theorem d_Gr_insertPass_30 : decode m_Gr_insertPass.2.1 30 = .ok (.aload_n 0, 1) := by decide +kernel
theorem d_Gr_insertPass_31 : decode m_Gr_insertPass.2.1 31 = .ok (.getfield 33, 3) := by decide +kernel
theorem d_Gr_insertPass_34 : decode m_Gr_insertPass.2.1 34 = .ok (.iload_n 1, 1) := by decide +kernel
theorem d_Gr_insertPass_35 : decode m_Gr_insertPass.2.1 35 = .ok (.invokevirtual 130, 3) := by decide +kernel
theorem d_Gr_insertPass_38 : decode m_Gr_insertPass.2.1 38 = .ok (.dup2, 1) := by decide +kernel
theorem d_Gr_insertPass_39 : decode m_Gr_insertPass.2.1 39 = .ok (.iaload, 1) := by decide +kernel
theorem d_Gr_insertPass_40 : decode m_Gr_insertPass.2.1 40 = .ok (.iconst 1, 1) := by decide +kernel
theorem d_Gr_insertPass_41 : decode m_Gr_insertPass.2.1 41 = .ok (.iadd, 1) := by decide +kernel
theorem d_Gr_insertPass_42 : decode m_Gr_insertPass.2.1 42 = .ok (.iastore, 1) := by decide +kernel
theorem d_Gr_insertPass_43 : decode m_Gr_insertPass.2.1 43 = .ok (.aload_n 0, 1) := by decide +kernel
theorem d_Gr_insertPass_44 : decode m_Gr_insertPass.2.1 44 = .ok (.aload_n 0, 1) := by decide +kernel
theorem d_Gr_insertPass_45 : decode m_Gr_insertPass.2.1 45 = .ok (.getfield 33, 3) := by decide +kernel
theorem d_Gr_insertPass_48 : decode m_Gr_insertPass.2.1 48 = .ok (.iload_n 1, 1) := by decide +kernel
theorem d_Gr_insertPass_49 : decode m_Gr_insertPass.2.1 49 = .ok (.invokevirtual 133, 3) := by decide +kernel
theorem d_Gr_insertPass_52 : decode m_Gr_insertPass.2.1 52 = .ok (.invokevirtual 136, 3) := by decide +kernel
theorem d_Gr_insertPass_55 : decode m_Gr_insertPass.2.1 55 = .ok (.return_, 1) := by decide +kernel
abbrev m_Gr_greatestRow : aw_MI := (⟨"MaypoleGreen$Green", "greatestRow", "()I"⟩, prog_4_method_28_code, 3, some .int)
theorem k_Gr_greatestRow : aw_K m_Gr_greatestRow 0 := ⟨aw_in 795 (by decide +kernel) rfl, aw_in 3 (by decide +kernel) rfl, ⟨by decide, by decide, by decide +kernel⟩, by decide, by decide +kernel⟩
theorem d_Gr_greatestRow_0 : decode m_Gr_greatestRow.2.1 0 = .ok (.aload_n 0, 1) := by decide +kernel
theorem d_Gr_greatestRow_1 : decode m_Gr_greatestRow.2.1 1 = .ok (.aload_n 0, 1) := by decide +kernel
theorem d_Gr_greatestRow_2 : decode m_Gr_greatestRow.2.1 2 = .ok (.getfield 33, 3) := by decide +kernel
theorem d_Gr_greatestRow_5 : decode m_Gr_greatestRow.2.1 5 = .ok (.getfield 57, 3) := by decide +kernel
theorem d_Gr_greatestRow_8 : decode m_Gr_greatestRow.2.1 8 = .ok (.iconst 1, 1) := by decide +kernel
theorem d_Gr_greatestRow_9 : decode m_Gr_greatestRow.2.1 9 = .ok (.isub, 1) := by decide +kernel
theorem d_Gr_greatestRow_10 : decode m_Gr_greatestRow.2.1 10 = .ok (.invokevirtual 162, 3) := by decide +kernel
abbrev m_Gr_rowAt : aw_MI := (⟨"MaypoleGreen$Green", "rowAt", "(I)I"⟩, prog_4_method_27_code, 6, some .int)
theorem lk_Gr_162 : Cond.methodLink "MaypoleGreen$Green" 162 m_Gr_rowAt.1 ∈ aw_T := aw_in 796 (by decide +kernel) rfl
theorem k_Gr_rowAt : aw_K m_Gr_rowAt 1 := ⟨aw_in 799 (by decide +kernel) rfl, aw_in 3 (by decide +kernel) rfl, ⟨by decide, by decide, by decide +kernel⟩, by decide, by decide +kernel⟩
theorem in_Gr_rowAt : Cond.instanceMethod m_Gr_rowAt.1 ∈ aw_T := aw_in 797 (by decide +kernel) rfl
theorem se_Gr_rowAt : Cond.selects m_Gr_rowAt.1.cls m_Gr_rowAt.1 m_Gr_rowAt.1 ∈ aw_T := aw_in 798 (by decide +kernel) rfl
theorem d_Gr_greatestRow_13 : decode m_Gr_greatestRow.2.1 13 = .ok (.pop, 1) := by decide +kernel
theorem d_Gr_greatestRow_14 : decode m_Gr_greatestRow.2.1 14 = .ok (.iconst 0, 1) := by decide +kernel
theorem d_Gr_greatestRow_15 : decode m_Gr_greatestRow.2.1 15 = .ok (.istore_n 1, 1) := by decide +kernel
theorem d_Gr_greatestRow_16 : decode m_Gr_greatestRow.2.1 16 = .ok (.iconst 0, 1) := by decide +kernel
theorem d_Gr_greatestRow_17 : decode m_Gr_greatestRow.2.1 17 = .ok (.istore_n 2, 1) := by decide +kernel
theorem d_Gr_greatestRow_18 : decode m_Gr_greatestRow.2.1 18 = .ok (.iload_n 2, 1) := by decide +kernel
theorem d_Gr_greatestRow_19 : decode m_Gr_greatestRow.2.1 19 = .ok (.bipush 7, 2) := by decide +kernel
theorem d_Gr_greatestRow_21 : decode m_Gr_greatestRow.2.1 21 = .ok (.if_icmp .ge 20, 3) := by decide +kernel
theorem d_Gr_greatestRow_41 : decode m_Gr_greatestRow.2.1 41 = .ok (.iload_n 1, 1) := by decide +kernel
theorem d_Gr_greatestRow_42 : decode m_Gr_greatestRow.2.1 42 = .ok (.ireturn, 1) := by decide +kernel
theorem d_Gr_greatestRow_24 : decode m_Gr_greatestRow.2.1 24 = .ok (.iload_n 1, 1) := by decide +kernel
theorem d_Gr_greatestRow_25 : decode m_Gr_greatestRow.2.1 25 = .ok (.aload_n 0, 1) := by decide +kernel
theorem d_Gr_greatestRow_26 : decode m_Gr_greatestRow.2.1 26 = .ok (.getfield 44, 3) := by decide +kernel
theorem f_Gr_44 : aw_F "MaypoleGreen$Green" 44 2 12 true := ⟨cR2, cT2, 13, fun k => cY2.getD k .int, rfl, ci2, cy2, cn2, rfl, by decide, aw_in 156 (by decide +kernel) rfl, rfl, rfl, rfl⟩
theorem d_Gr_greatestRow_29 : decode m_Gr_greatestRow.2.1 29 = .ok (.iload_n 2, 1) := by decide +kernel
theorem d_Gr_greatestRow_30 : decode m_Gr_greatestRow.2.1 30 = .ok (.iaload, 1) := by decide +kernel
theorem d_Gr_greatestRow_31 : decode m_Gr_greatestRow.2.1 31 = .ok (.invokestatic 86, 3) := by decide +kernel
theorem lk_Gr_86 : Cond.methodLink "MaypoleGreen$Green" 86 m_Ma_max.1 ∈ aw_T := aw_in 803 (by decide +kernel) rfl
theorem st_Ma_max : Cond.static m_Ma_max.1 ∈ aw_T := aw_in 804 (by decide +kernel) rfl
theorem d_Gr_greatestRow_34 : decode m_Gr_greatestRow.2.1 34 = .ok (.istore_n 1, 1) := by decide +kernel
theorem d_Gr_greatestRow_35 : decode m_Gr_greatestRow.2.1 35 = .ok (.iinc 2 1, 3) := by decide +kernel
theorem d_Gr_greatestRow_38 : decode m_Gr_greatestRow.2.1 38 = .ok (.goto (-20), 3) := by decide +kernel
theorem d_Gr_rowAt_0 : decode m_Gr_rowAt.2.1 0 = .ok (.aload_n 0, 1) := by decide +kernel
theorem d_Gr_rowAt_1 : decode m_Gr_rowAt.2.1 1 = .ok (.getfield 44, 3) := by decide +kernel
theorem d_Gr_rowAt_4 : decode m_Gr_rowAt.2.1 4 = .ok (.iconst 0, 1) := by decide +kernel
theorem d_Gr_rowAt_5 : decode m_Gr_rowAt.2.1 5 = .ok (.invokestatic 148, 3) := by decide +kernel
theorem lk_Gr_148 : Cond.methodLink "MaypoleGreen$Green" 148 m_Ar_fill_AIIV.1 ∈ aw_T := aw_in 800 (by decide +kernel) rfl
theorem st_Ar_fill_AIIV : Cond.static m_Ar_fill_AIIV.1 ∈ aw_T := aw_in 801 (by decide +kernel) rfl
theorem d_Gr_rowAt_8 : decode m_Gr_rowAt.2.1 8 = .ok (.iconst 0, 1) := by decide +kernel
theorem d_Gr_rowAt_9 : decode m_Gr_rowAt.2.1 9 = .ok (.istore_n 2, 1) := by decide +kernel
theorem d_Gr_rowAt_10 : decode m_Gr_rowAt.2.1 10 = .ok (.iconst 0, 1) := by decide +kernel
theorem d_Gr_rowAt_11 : decode m_Gr_rowAt.2.1 11 = .ok (.istore_n 3, 1) := by decide +kernel
theorem d_Gr_rowAt_12 : decode m_Gr_rowAt.2.1 12 = .ok (.iload_n 3, 1) := by decide +kernel
theorem d_Gr_rowAt_13 : decode m_Gr_rowAt.2.1 13 = .ok (.iload_n 1, 1) := by decide +kernel
theorem d_Gr_rowAt_14 : decode m_Gr_rowAt.2.1 14 = .ok (.if_icmp .gt 80, 3) := by decide +kernel
theorem d_Gr_rowAt_94 : decode m_Gr_rowAt.2.1 94 = .ok (.iload_n 2, 1) := by decide +kernel
theorem d_Gr_rowAt_95 : decode m_Gr_rowAt.2.1 95 = .ok (.ireturn, 1) := by decide +kernel
theorem d_Gr_rowAt_17 : decode m_Gr_rowAt.2.1 17 = .ok (.aload_n 0, 1) := by decide +kernel
theorem d_Gr_rowAt_18 : decode m_Gr_rowAt.2.1 18 = .ok (.aload_n 0, 1) := by decide +kernel
theorem d_Gr_rowAt_19 : decode m_Gr_rowAt.2.1 19 = .ok (.getfield 33, 3) := by decide +kernel
theorem d_Gr_rowAt_22 : decode m_Gr_rowAt.2.1 22 = .ok (.iload_n 3, 1) := by decide +kernel
theorem d_Gr_rowAt_23 : decode m_Gr_rowAt.2.1 23 = .ok (.invokevirtual 133, 3) := by decide +kernel
theorem d_Gr_rowAt_26 : decode m_Gr_rowAt.2.1 26 = .ok (.invokevirtual 92, 3) := by decide +kernel
theorem d_Gr_rowAt_29 : decode m_Gr_rowAt.2.1 29 = .ok (.istore 4, 2) := by decide +kernel
theorem d_Gr_rowAt_31 : decode m_Gr_rowAt.2.1 31 = .ok (.iconst 0, 1) := by decide +kernel
theorem d_Gr_rowAt_32 : decode m_Gr_rowAt.2.1 32 = .ok (.istore_n 2, 1) := by decide +kernel
theorem d_Gr_rowAt_33 : decode m_Gr_rowAt.2.1 33 = .ok (.iconst 0, 1) := by decide +kernel
theorem d_Gr_rowAt_34 : decode m_Gr_rowAt.2.1 34 = .ok (.istore 5, 2) := by decide +kernel
theorem d_Gr_rowAt_36 : decode m_Gr_rowAt.2.1 36 = .ok (.iload 5, 2) := by decide +kernel
theorem d_Gr_rowAt_38 : decode m_Gr_rowAt.2.1 38 = .ok (.bipush 7, 2) := by decide +kernel
theorem d_Gr_rowAt_40 : decode m_Gr_rowAt.2.1 40 = .ok (.if_icmp .ge 31, 3) := by decide +kernel
theorem d_Gr_rowAt_71 : decode m_Gr_rowAt.2.1 71 = .ok (.iinc 2 1, 3) := by decide +kernel
theorem d_Gr_rowAt_74 : decode m_Gr_rowAt.2.1 74 = .ok (.aload_n 0, 1) := by decide +kernel
theorem d_Gr_rowAt_75 : decode m_Gr_rowAt.2.1 75 = .ok (.getfield 44, 3) := by decide +kernel
theorem d_Gr_rowAt_78 : decode m_Gr_rowAt.2.1 78 = .ok (.aload_n 0, 1) := by decide +kernel
theorem d_Gr_rowAt_79 : decode m_Gr_rowAt.2.1 79 = .ok (.getfield 33, 3) := by decide +kernel
theorem d_Gr_rowAt_82 : decode m_Gr_rowAt.2.1 82 = .ok (.iload_n 3, 1) := by decide +kernel
theorem d_Gr_rowAt_83 : decode m_Gr_rowAt.2.1 83 = .ok (.invokevirtual 133, 3) := by decide +kernel
theorem d_Gr_rowAt_86 : decode m_Gr_rowAt.2.1 86 = .ok (.iload_n 2, 1) := by decide +kernel
theorem d_Gr_rowAt_87 : decode m_Gr_rowAt.2.1 87 = .ok (.iastore, 1) := by decide +kernel
theorem d_Gr_rowAt_88 : decode m_Gr_rowAt.2.1 88 = .ok (.iinc 3 1, 3) := by decide +kernel
theorem d_Gr_rowAt_91 : decode m_Gr_rowAt.2.1 91 = .ok (.goto (-79), 3) := by decide +kernel
theorem d_Gr_rowAt_43 : decode m_Gr_rowAt.2.1 43 = .ok (.iload 4, 2) := by decide +kernel
theorem d_Gr_rowAt_45 : decode m_Gr_rowAt.2.1 45 = .ok (.iload 5, 2) := by decide +kernel
theorem d_Gr_rowAt_47 : decode m_Gr_rowAt.2.1 47 = .ok (.ishr, 1) := by decide +kernel
theorem d_Gr_rowAt_48 : decode m_Gr_rowAt.2.1 48 = .ok (.iconst 1, 1) := by decide +kernel
theorem d_Gr_rowAt_49 : decode m_Gr_rowAt.2.1 49 = .ok (.iand, 1) := by decide +kernel
theorem d_Gr_rowAt_50 : decode m_Gr_rowAt.2.1 50 = .ok (.ifCond .eq 15, 3) := by decide +kernel
theorem d_Gr_rowAt_65 : decode m_Gr_rowAt.2.1 65 = .ok (.iinc 5 1, 3) := by decide +kernel
theorem d_Gr_rowAt_68 : decode m_Gr_rowAt.2.1 68 = .ok (.goto (-32), 3) := by decide +kernel
theorem d_Gr_rowAt_53 : decode m_Gr_rowAt.2.1 53 = .ok (.iload_n 2, 1) := by decide +kernel
theorem d_Gr_rowAt_54 : decode m_Gr_rowAt.2.1 54 = .ok (.aload_n 0, 1) := by decide +kernel
theorem d_Gr_rowAt_55 : decode m_Gr_rowAt.2.1 55 = .ok (.getfield 44, 3) := by decide +kernel
theorem d_Gr_rowAt_58 : decode m_Gr_rowAt.2.1 58 = .ok (.iload 5, 2) := by decide +kernel
theorem d_Gr_rowAt_60 : decode m_Gr_rowAt.2.1 60 = .ok (.iaload, 1) := by decide +kernel
theorem d_Gr_rowAt_61 : decode m_Gr_rowAt.2.1 61 = .ok (.invokestatic 86, 3) := by decide +kernel
theorem d_Gr_rowAt_64 : decode m_Gr_rowAt.2.1 64 = .ok (.istore_n 2, 1) := by decide +kernel
abbrev m_Gr_atHome : aw_MI := (⟨"MaypoleGreen$Green", "atHome", "()I"⟩, prog_4_method_24_code, 3, some .int)
theorem k_Gr_atHome : aw_K m_Gr_atHome 0 := ⟨aw_in 809 (by decide +kernel) rfl, aw_in 3 (by decide +kernel) rfl, ⟨by decide, by decide, by decide +kernel⟩, by decide, by decide +kernel⟩
theorem d_Gr_atHome_0 : decode m_Gr_atHome.2.1 0 = .ok (.iconst 0, 1) := by decide +kernel
theorem d_Gr_atHome_1 : decode m_Gr_atHome.2.1 1 = .ok (.istore_n 1, 1) := by decide +kernel
theorem d_Gr_atHome_2 : decode m_Gr_atHome.2.1 2 = .ok (.iconst 0, 1) := by decide +kernel
theorem d_Gr_atHome_3 : decode m_Gr_atHome.2.1 3 = .ok (.istore_n 2, 1) := by decide +kernel
theorem d_Gr_atHome_4 : decode m_Gr_atHome.2.1 4 = .ok (.iload_n 2, 1) := by decide +kernel
theorem d_Gr_atHome_5 : decode m_Gr_atHome.2.1 5 = .ok (.aload_n 0, 1) := by decide +kernel
theorem d_Gr_atHome_6 : decode m_Gr_atHome.2.1 6 = .ok (.getfield 54, 3) := by decide +kernel
theorem d_Gr_atHome_9 : decode m_Gr_atHome.2.1 9 = .ok (.if_icmp .ge 25, 3) := by decide +kernel
theorem d_Gr_atHome_34 : decode m_Gr_atHome.2.1 34 = .ok (.iload_n 1, 1) := by decide +kernel
theorem d_Gr_atHome_35 : decode m_Gr_atHome.2.1 35 = .ok (.ireturn, 1) := by decide +kernel
theorem d_Gr_atHome_12 : decode m_Gr_atHome.2.1 12 = .ok (.aload_n 0, 1) := by decide +kernel
theorem d_Gr_atHome_13 : decode m_Gr_atHome.2.1 13 = .ok (.getfield 19, 3) := by decide +kernel
theorem d_Gr_atHome_16 : decode m_Gr_atHome.2.1 16 = .ok (.iload_n 2, 1) := by decide +kernel
theorem d_Gr_atHome_17 : decode m_Gr_atHome.2.1 17 = .ok (.iaload, 1) := by decide +kernel
theorem d_Gr_atHome_18 : decode m_Gr_atHome.2.1 18 = .ok (.iload_n 2, 1) := by decide +kernel
theorem d_Gr_atHome_19 : decode m_Gr_atHome.2.1 19 = .ok (.if_icmp .ne 9, 3) := by decide +kernel
theorem d_Gr_atHome_28 : decode m_Gr_atHome.2.1 28 = .ok (.iinc 2 1, 3) := by decide +kernel
theorem d_Gr_atHome_31 : decode m_Gr_atHome.2.1 31 = .ok (.goto (-27), 3) := by decide +kernel
theorem d_Gr_atHome_22 : decode m_Gr_atHome.2.1 22 = .ok (.iload_n 1, 1) := by decide +kernel
theorem d_Gr_atHome_23 : decode m_Gr_atHome.2.1 23 = .ok (.iconst 1, 1) := by decide +kernel
theorem d_Gr_atHome_24 : decode m_Gr_atHome.2.1 24 = .ok (.iload_n 2, 1) := by decide +kernel
theorem d_Gr_atHome_25 : decode m_Gr_atHome.2.1 25 = .ok (.ishl, 1) := by decide +kernel
theorem d_Gr_atHome_26 : decode m_Gr_atHome.2.1 26 = .ok (.ior, 1) := by decide +kernel
theorem d_Gr_atHome_27 : decode m_Gr_atHome.2.1 27 = .ok (.istore_n 1, 1) := by decide +kernel
abbrev m_Gr_freeGaps : aw_MI := (⟨"MaypoleGreen$Green", "freeGaps", "()I"⟩, prog_4_method_26_code, 3, some .int)
theorem k_Gr_freeGaps : aw_K m_Gr_freeGaps 0 := ⟨aw_in 813 (by decide +kernel) rfl, aw_in 3 (by decide +kernel) rfl, ⟨by decide, by decide, by decide +kernel⟩, by decide, by decide +kernel⟩
theorem d_Gr_freeGaps_0 : decode m_Gr_freeGaps.2.1 0 = .ok (.iconst 0, 1) := by decide +kernel
theorem d_Gr_freeGaps_1 : decode m_Gr_freeGaps.2.1 1 = .ok (.istore_n 1, 1) := by decide +kernel
theorem d_Gr_freeGaps_2 : decode m_Gr_freeGaps.2.1 2 = .ok (.iconst 0, 1) := by decide +kernel
theorem d_Gr_freeGaps_3 : decode m_Gr_freeGaps.2.1 3 = .ok (.istore_n 2, 1) := by decide +kernel
theorem d_Gr_freeGaps_4 : decode m_Gr_freeGaps.2.1 4 = .ok (.iload_n 2, 1) := by decide +kernel
theorem d_Gr_freeGaps_5 : decode m_Gr_freeGaps.2.1 5 = .ok (.aload_n 0, 1) := by decide +kernel
theorem d_Gr_freeGaps_6 : decode m_Gr_freeGaps.2.1 6 = .ok (.getfield 33, 3) := by decide +kernel
theorem d_Gr_freeGaps_9 : decode m_Gr_freeGaps.2.1 9 = .ok (.getfield 57, 3) := by decide +kernel
theorem d_Gr_freeGaps_12 : decode m_Gr_freeGaps.2.1 12 = .ok (.if_icmp .ge 30, 3) := by decide +kernel
theorem d_Gr_freeGaps_42 : decode m_Gr_freeGaps.2.1 42 = .ok (.iload_n 1, 1) := by decide +kernel
theorem d_Gr_freeGaps_43 : decode m_Gr_freeGaps.2.1 43 = .ok (.ireturn, 1) := by decide +kernel
theorem d_Gr_freeGaps_15 : decode m_Gr_freeGaps.2.1 15 = .ok (.aload_n 0, 1) := by decide +kernel
theorem d_Gr_freeGaps_16 : decode m_Gr_freeGaps.2.1 16 = .ok (.iload_n 2, 1) := by decide +kernel
theorem d_Gr_freeGaps_17 : decode m_Gr_freeGaps.2.1 17 = .ok (.invokevirtual 159, 3) := by decide +kernel
abbrev m_Gr_isFree : aw_MI := (⟨"MaypoleGreen$Green", "isFree", "(I)Z"⟩, prog_4_method_25_code, 4, some .boolean)
theorem lk_Gr_159 : Cond.methodLink "MaypoleGreen$Green" 159 m_Gr_isFree.1 ∈ aw_T := aw_in 814 (by decide +kernel) rfl
theorem k_Gr_isFree : aw_K m_Gr_isFree 1 := ⟨aw_in 817 (by decide +kernel) rfl, aw_in 3 (by decide +kernel) rfl, ⟨by decide, by decide, by decide +kernel⟩, by decide, by decide +kernel⟩
theorem in_Gr_isFree : Cond.instanceMethod m_Gr_isFree.1 ∈ aw_T := aw_in 815 (by decide +kernel) rfl
theorem se_Gr_isFree : Cond.selects m_Gr_isFree.1.cls m_Gr_isFree.1 m_Gr_isFree.1 ∈ aw_T := aw_in 816 (by decide +kernel) rfl
theorem d_Gr_freeGaps_20 : decode m_Gr_freeGaps.2.1 20 = .ok (.ifCond .eq 16, 3) := by decide +kernel
theorem d_Gr_freeGaps_36 : decode m_Gr_freeGaps.2.1 36 = .ok (.iinc 2 1, 3) := by decide +kernel
theorem d_Gr_freeGaps_39 : decode m_Gr_freeGaps.2.1 39 = .ok (.goto (-35), 3) := by decide +kernel
theorem d_Gr_freeGaps_23 : decode m_Gr_freeGaps.2.1 23 = .ok (.iload_n 1, 1) := by decide +kernel
theorem d_Gr_freeGaps_24 : decode m_Gr_freeGaps.2.1 24 = .ok (.iconst 1, 1) := by decide +kernel
theorem d_Gr_freeGaps_25 : decode m_Gr_freeGaps.2.1 25 = .ok (.aload_n 0, 1) := by decide +kernel
theorem d_Gr_freeGaps_26 : decode m_Gr_freeGaps.2.1 26 = .ok (.getfield 33, 3) := by decide +kernel
theorem d_Gr_freeGaps_29 : decode m_Gr_freeGaps.2.1 29 = .ok (.iload_n 2, 1) := by decide +kernel
theorem d_Gr_freeGaps_30 : decode m_Gr_freeGaps.2.1 30 = .ok (.invokevirtual 133, 3) := by decide +kernel
theorem d_Gr_freeGaps_33 : decode m_Gr_freeGaps.2.1 33 = .ok (.ishl, 1) := by decide +kernel
theorem d_Gr_freeGaps_34 : decode m_Gr_freeGaps.2.1 34 = .ok (.ior, 1) := by decide +kernel
theorem d_Gr_freeGaps_35 : decode m_Gr_freeGaps.2.1 35 = .ok (.istore_n 1, 1) := by decide +kernel
theorem d_Gr_isFree_0 : decode m_Gr_isFree.2.1 0 = .ok (.aload_n 0, 1) := by decide +kernel
theorem d_Gr_isFree_1 : decode m_Gr_isFree.2.1 1 = .ok (.aload_n 0, 1) := by decide +kernel
theorem d_Gr_isFree_2 : decode m_Gr_isFree.2.1 2 = .ok (.getfield 33, 3) := by decide +kernel
theorem d_Gr_isFree_5 : decode m_Gr_isFree.2.1 5 = .ok (.iload_n 1, 1) := by decide +kernel
theorem d_Gr_isFree_6 : decode m_Gr_isFree.2.1 6 = .ok (.invokevirtual 133, 3) := by decide +kernel
theorem d_Gr_isFree_9 : decode m_Gr_isFree.2.1 9 = .ok (.invokevirtual 92, 3) := by decide +kernel
theorem d_Gr_isFree_12 : decode m_Gr_isFree.2.1 12 = .ok (.istore_n 2, 1) := by decide +kernel
theorem d_Gr_isFree_13 : decode m_Gr_isFree.2.1 13 = .ok (.iload_n 1, 1) := by decide +kernel
theorem d_Gr_isFree_14 : decode m_Gr_isFree.2.1 14 = .ok (.iconst 1, 1) := by decide +kernel
theorem d_Gr_isFree_15 : decode m_Gr_isFree.2.1 15 = .ok (.iadd, 1) := by decide +kernel
theorem d_Gr_isFree_16 : decode m_Gr_isFree.2.1 16 = .ok (.istore_n 3, 1) := by decide +kernel
theorem d_Gr_isFree_17 : decode m_Gr_isFree.2.1 17 = .ok (.iload_n 3, 1) := by decide +kernel
theorem d_Gr_isFree_18 : decode m_Gr_isFree.2.1 18 = .ok (.aload_n 0, 1) := by decide +kernel
theorem d_Gr_isFree_19 : decode m_Gr_isFree.2.1 19 = .ok (.getfield 33, 3) := by decide +kernel
theorem d_Gr_isFree_22 : decode m_Gr_isFree.2.1 22 = .ok (.getfield 57, 3) := by decide +kernel
theorem d_Gr_isFree_25 : decode m_Gr_isFree.2.1 25 = .ok (.if_icmp .ge 26, 3) := by decide +kernel
theorem d_Gr_isFree_51 : decode m_Gr_isFree.2.1 51 = .ok (.iconst 1, 1) := by decide +kernel
theorem d_Gr_isFree_52 : decode m_Gr_isFree.2.1 52 = .ok (.ireturn, 1) := by decide +kernel
theorem d_Gr_isFree_28 : decode m_Gr_isFree.2.1 28 = .ok (.iload_n 2, 1) := by decide +kernel
theorem d_Gr_isFree_29 : decode m_Gr_isFree.2.1 29 = .ok (.aload_n 0, 1) := by decide +kernel
theorem d_Gr_isFree_30 : decode m_Gr_isFree.2.1 30 = .ok (.getfield 33, 3) := by decide +kernel
theorem d_Gr_isFree_33 : decode m_Gr_isFree.2.1 33 = .ok (.iload_n 3, 1) := by decide +kernel
theorem d_Gr_isFree_34 : decode m_Gr_isFree.2.1 34 = .ok (.invokevirtual 133, 3) := by decide +kernel
theorem d_Gr_isFree_37 : decode m_Gr_isFree.2.1 37 = .ok (.ishr, 1) := by decide +kernel
theorem d_Gr_isFree_38 : decode m_Gr_isFree.2.1 38 = .ok (.iconst 1, 1) := by decide +kernel
theorem d_Gr_isFree_39 : decode m_Gr_isFree.2.1 39 = .ok (.iand, 1) := by decide +kernel
theorem d_Gr_isFree_40 : decode m_Gr_isFree.2.1 40 = .ok (.ifCond .eq 5, 3) := by decide +kernel
theorem d_Gr_isFree_45 : decode m_Gr_isFree.2.1 45 = .ok (.iinc 3 1, 3) := by decide +kernel
theorem d_Gr_isFree_48 : decode m_Gr_isFree.2.1 48 = .ok (.goto (-31), 3) := by decide +kernel
theorem d_Gr_isFree_43 : decode m_Gr_isFree.2.1 43 = .ok (.iconst 0, 1) := by decide +kernel
theorem d_Gr_isFree_44 : decode m_Gr_isFree.2.1 44 = .ok (.ireturn, 1) := by decide +kernel
abbrev m_Gr_coloursShown : aw_MI := (⟨"MaypoleGreen$Green", "coloursShown", "()I"⟩, prog_4_method_23_code, 5, some .int)
theorem k_Gr_coloursShown : aw_K m_Gr_coloursShown 0 := ⟨aw_in 821 (by decide +kernel) rfl, aw_in 3 (by decide +kernel) rfl, ⟨by decide, by decide, by decide +kernel⟩, by decide, by decide +kernel⟩
theorem d_Gr_coloursShown_0 : decode m_Gr_coloursShown.2.1 0 = .ok (.iconst 0, 1) := by decide +kernel
theorem d_Gr_coloursShown_1 : decode m_Gr_coloursShown.2.1 1 = .ok (.istore_n 1, 1) := by decide +kernel
theorem d_Gr_coloursShown_2 : decode m_Gr_coloursShown.2.1 2 = .ok (.iconst 0, 1) := by decide +kernel
theorem d_Gr_coloursShown_3 : decode m_Gr_coloursShown.2.1 3 = .ok (.istore_n 2, 1) := by decide +kernel
theorem d_Gr_coloursShown_4 : decode m_Gr_coloursShown.2.1 4 = .ok (.aload_n 0, 1) := by decide +kernel
theorem d_Gr_coloursShown_5 : decode m_Gr_coloursShown.2.1 5 = .ok (.getfield 33, 3) := by decide +kernel
theorem d_Gr_coloursShown_8 : decode m_Gr_coloursShown.2.1 8 = .ok (.getfield 57, 3) := by decide +kernel
theorem d_Gr_coloursShown_11 : decode m_Gr_coloursShown.2.1 11 = .ok (.iconst 1, 1) := by decide +kernel
theorem d_Gr_coloursShown_12 : decode m_Gr_coloursShown.2.1 12 = .ok (.isub, 1) := by decide +kernel
theorem d_Gr_coloursShown_13 : decode m_Gr_coloursShown.2.1 13 = .ok (.istore_n 3, 1) := by decide +kernel
theorem d_Gr_coloursShown_14 : decode m_Gr_coloursShown.2.1 14 = .ok (.iload_n 3, 1) := by decide +kernel
theorem d_Gr_coloursShown_15 : decode m_Gr_coloursShown.2.1 15 = .ok (.ifCond .lt 51, 3) := by decide +kernel
theorem d_Gr_coloursShown_66 : decode m_Gr_coloursShown.2.1 66 = .ok (.iload_n 2, 1) := by decide +kernel
theorem d_Gr_coloursShown_67 : decode m_Gr_coloursShown.2.1 67 = .ok (.invokestatic 154, 3) := by decide +kernel
theorem lk_Gr_154 : Cond.methodLink "MaypoleGreen$Green" 154 m_In_bitCount.1 ∈ aw_T := aw_in 822 (by decide +kernel) rfl
theorem st_In_bitCount : Cond.static m_In_bitCount.1 ∈ aw_T := aw_in 823 (by decide +kernel) rfl
theorem d_Gr_coloursShown_70 : decode m_Gr_coloursShown.2.1 70 = .ok (.ireturn, 1) := by decide +kernel
theorem d_Gr_coloursShown_18 : decode m_Gr_coloursShown.2.1 18 = .ok (.iconst 1, 1) := by decide +kernel
theorem d_Gr_coloursShown_19 : decode m_Gr_coloursShown.2.1 19 = .ok (.aload_n 0, 1) := by decide +kernel
theorem d_Gr_coloursShown_20 : decode m_Gr_coloursShown.2.1 20 = .ok (.getfield 33, 3) := by decide +kernel
theorem d_Gr_coloursShown_23 : decode m_Gr_coloursShown.2.1 23 = .ok (.iload_n 3, 1) := by decide +kernel
theorem d_Gr_coloursShown_24 : decode m_Gr_coloursShown.2.1 24 = .ok (.invokevirtual 133, 3) := by decide +kernel
theorem d_Gr_coloursShown_27 : decode m_Gr_coloursShown.2.1 27 = .ok (.ishl, 1) := by decide +kernel
theorem d_Gr_coloursShown_28 : decode m_Gr_coloursShown.2.1 28 = .ok (.istore 4, 2) := by decide +kernel
theorem d_Gr_coloursShown_30 : decode m_Gr_coloursShown.2.1 30 = .ok (.iload_n 1, 1) := by decide +kernel
theorem d_Gr_coloursShown_31 : decode m_Gr_coloursShown.2.1 31 = .ok (.iload 4, 2) := by decide +kernel
theorem d_Gr_coloursShown_33 : decode m_Gr_coloursShown.2.1 33 = .ok (.iand, 1) := by decide +kernel
theorem d_Gr_coloursShown_34 : decode m_Gr_coloursShown.2.1 34 = .ok (.ifCond .ne 26, 3) := by decide +kernel
theorem d_Gr_coloursShown_60 : decode m_Gr_coloursShown.2.1 60 = .ok (.iinc 3 (-1), 3) := by decide +kernel
theorem d_Gr_coloursShown_63 : decode m_Gr_coloursShown.2.1 63 = .ok (.goto (-49), 3) := by decide +kernel
theorem d_Gr_coloursShown_37 : decode m_Gr_coloursShown.2.1 37 = .ok (.iload_n 1, 1) := by decide +kernel
theorem d_Gr_coloursShown_38 : decode m_Gr_coloursShown.2.1 38 = .ok (.iload 4, 2) := by decide +kernel
theorem d_Gr_coloursShown_40 : decode m_Gr_coloursShown.2.1 40 = .ok (.ior, 1) := by decide +kernel
theorem d_Gr_coloursShown_41 : decode m_Gr_coloursShown.2.1 41 = .ok (.istore_n 1, 1) := by decide +kernel
theorem d_Gr_coloursShown_42 : decode m_Gr_coloursShown.2.1 42 = .ok (.iload_n 2, 1) := by decide +kernel
theorem d_Gr_coloursShown_43 : decode m_Gr_coloursShown.2.1 43 = .ok (.iconst 1, 1) := by decide +kernel
theorem d_Gr_coloursShown_44 : decode m_Gr_coloursShown.2.1 44 = .ok (.aload_n 0, 1) := by decide +kernel
theorem d_Gr_coloursShown_45 : decode m_Gr_coloursShown.2.1 45 = .ok (.getfield 15, 3) := by decide +kernel
theorem d_Gr_coloursShown_48 : decode m_Gr_coloursShown.2.1 48 = .ok (.aload_n 0, 1) := by decide +kernel
theorem d_Gr_coloursShown_49 : decode m_Gr_coloursShown.2.1 49 = .ok (.getfield 33, 3) := by decide +kernel
theorem d_Gr_coloursShown_52 : decode m_Gr_coloursShown.2.1 52 = .ok (.iload_n 3, 1) := by decide +kernel
theorem d_Gr_coloursShown_53 : decode m_Gr_coloursShown.2.1 53 = .ok (.invokevirtual 127, 3) := by decide +kernel
theorem d_Gr_coloursShown_56 : decode m_Gr_coloursShown.2.1 56 = .ok (.iaload, 1) := by decide +kernel
theorem d_Gr_coloursShown_57 : decode m_Gr_coloursShown.2.1 57 = .ok (.ishl, 1) := by decide +kernel
theorem d_Gr_coloursShown_58 : decode m_Gr_coloursShown.2.1 58 = .ok (.ior, 1) := by decide +kernel
theorem d_Gr_coloursShown_59 : decode m_Gr_coloursShown.2.1 59 = .ok (.istore_n 2, 1) := by decide +kernel
abbrev m_Gr_left : aw_MI := (⟨"MaypoleGreen$Green", "left", "(I)I"⟩, prog_4_method_11_code, 2, some .int)
theorem k_Gr_left : aw_K m_Gr_left 1 := ⟨aw_in 839 (by decide +kernel) rfl, aw_in 3 (by decide +kernel) rfl, ⟨by decide, by decide, by decide +kernel⟩, by decide, by decide +kernel⟩
theorem d_Gr_left_0 : decode m_Gr_left.2.1 0 = .ok (.iconst 0, 1) := by decide +kernel
theorem d_Gr_left_1 : decode m_Gr_left.2.1 1 = .ok (.aload_n 0, 1) := by decide +kernel
theorem d_Gr_left_2 : decode m_Gr_left.2.1 2 = .ok (.getfield 51, 3) := by decide +kernel
theorem d_Gr_left_5 : decode m_Gr_left.2.1 5 = .ok (.aload_n 0, 1) := by decide +kernel
theorem d_Gr_left_6 : decode m_Gr_left.2.1 6 = .ok (.getfield 22, 3) := by decide +kernel
theorem d_Gr_left_9 : decode m_Gr_left.2.1 9 = .ok (.iload_n 1, 1) := by decide +kernel
theorem d_Gr_left_10 : decode m_Gr_left.2.1 10 = .ok (.iaload, 1) := by decide +kernel
theorem d_Gr_left_11 : decode m_Gr_left.2.1 11 = .ok (.isub, 1) := by decide +kernel
theorem d_Gr_left_12 : decode m_Gr_left.2.1 12 = .ok (.invokestatic 86, 3) := by decide +kernel
theorem d_Gr_left_15 : decode m_Gr_left.2.1 15 = .ok (.ireturn, 1) := by decide +kernel
abbrev m_Gr_mustGo : aw_MI := (⟨"MaypoleGreen$Green", "mustGo", "(II)I"⟩, prog_4_method_29_code, 8, some .int)
theorem k_Gr_mustGo : aw_K m_Gr_mustGo 2 := ⟨aw_in 869 (by decide +kernel) rfl, aw_in 3 (by decide +kernel) rfl, ⟨by decide, by decide, by decide +kernel⟩, by decide, by decide +kernel⟩
theorem d_Gr_mustGo_0 : decode m_Gr_mustGo.2.1 0 = .ok (.iconst 0, 1) := by decide +kernel
theorem d_Gr_mustGo_1 : decode m_Gr_mustGo.2.1 1 = .ok (.istore_n 3, 1) := by decide +kernel
theorem d_Gr_mustGo_2 : decode m_Gr_mustGo.2.1 2 = .ok (.iconst 0, 1) := by decide +kernel
theorem d_Gr_mustGo_3 : decode m_Gr_mustGo.2.1 3 = .ok (.istore 4, 2) := by decide +kernel
theorem d_Gr_mustGo_5 : decode m_Gr_mustGo.2.1 5 = .ok (.iconst 0, 1) := by decide +kernel
theorem d_Gr_mustGo_6 : decode m_Gr_mustGo.2.1 6 = .ok (.istore 5, 2) := by decide +kernel
theorem d_Gr_mustGo_8 : decode m_Gr_mustGo.2.1 8 = .ok (.iload 5, 2) := by decide +kernel
theorem d_Gr_mustGo_10 : decode m_Gr_mustGo.2.1 10 = .ok (.aload_n 0, 1) := by decide +kernel
theorem d_Gr_mustGo_11 : decode m_Gr_mustGo.2.1 11 = .ok (.getfield 33, 3) := by decide +kernel
theorem d_Gr_mustGo_14 : decode m_Gr_mustGo.2.1 14 = .ok (.getfield 57, 3) := by decide +kernel
theorem d_Gr_mustGo_17 : decode m_Gr_mustGo.2.1 17 = .ok (.if_icmp .ge 75, 3) := by decide +kernel
theorem d_Gr_mustGo_92 : decode m_Gr_mustGo.2.1 92 = .ok (.iload_n 3, 1) := by decide +kernel
theorem d_Gr_mustGo_93 : decode m_Gr_mustGo.2.1 93 = .ok (.ireturn, 1) := by decide +kernel
theorem d_Gr_mustGo_20 : decode m_Gr_mustGo.2.1 20 = .ok (.aload_n 0, 1) := by decide +kernel
theorem d_Gr_mustGo_21 : decode m_Gr_mustGo.2.1 21 = .ok (.getfield 33, 3) := by decide +kernel
theorem d_Gr_mustGo_24 : decode m_Gr_mustGo.2.1 24 = .ok (.iload 5, 2) := by decide +kernel
theorem d_Gr_mustGo_26 : decode m_Gr_mustGo.2.1 26 = .ok (.invokevirtual 133, 3) := by decide +kernel
theorem d_Gr_mustGo_29 : decode m_Gr_mustGo.2.1 29 = .ok (.istore 6, 2) := by decide +kernel
theorem d_Gr_mustGo_31 : decode m_Gr_mustGo.2.1 31 = .ok (.iload 5, 2) := by decide +kernel
theorem d_Gr_mustGo_33 : decode m_Gr_mustGo.2.1 33 = .ok (.iload_n 1, 1) := by decide +kernel
theorem d_Gr_mustGo_34 : decode m_Gr_mustGo.2.1 34 = .ok (.if_icmp .eq 16, 3) := by decide +kernel
theorem d_Gr_mustGo_50 : decode m_Gr_mustGo.2.1 50 = .ok (.iconst 1, 1) := by decide +kernel
theorem d_Gr_mustGo_51 : decode m_Gr_mustGo.2.1 51 = .ok (.goto 4, 3) := by decide +kernel
theorem d_Gr_mustGo_55 : decode m_Gr_mustGo.2.1 55 = .ok (.istore 7, 2) := by decide +kernel
theorem d_Gr_mustGo_57 : decode m_Gr_mustGo.2.1 57 = .ok (.iload 7, 2) := by decide +kernel
theorem d_Gr_mustGo_59 : decode m_Gr_mustGo.2.1 59 = .ok (.ifCond .ne 15, 3) := by decide +kernel
theorem d_Gr_mustGo_74 : decode m_Gr_mustGo.2.1 74 = .ok (.iinc 3 1, 3) := by decide +kernel
theorem d_Gr_mustGo_77 : decode m_Gr_mustGo.2.1 77 = .ok (.iload 4, 2) := by decide +kernel
theorem d_Gr_mustGo_79 : decode m_Gr_mustGo.2.1 79 = .ok (.iconst 1, 1) := by decide +kernel
theorem d_Gr_mustGo_80 : decode m_Gr_mustGo.2.1 80 = .ok (.iload 6, 2) := by decide +kernel
theorem d_Gr_mustGo_82 : decode m_Gr_mustGo.2.1 82 = .ok (.ishl, 1) := by decide +kernel
theorem d_Gr_mustGo_83 : decode m_Gr_mustGo.2.1 83 = .ok (.ior, 1) := by decide +kernel
theorem d_Gr_mustGo_84 : decode m_Gr_mustGo.2.1 84 = .ok (.istore 4, 2) := by decide +kernel
theorem d_Gr_mustGo_86 : decode m_Gr_mustGo.2.1 86 = .ok (.iinc 5 1, 3) := by decide +kernel
theorem d_Gr_mustGo_89 : decode m_Gr_mustGo.2.1 89 = .ok (.goto (-81), 3) := by decide +kernel
theorem d_Gr_mustGo_37 : decode m_Gr_mustGo.2.1 37 = .ok (.aload_n 0, 1) := by decide +kernel
theorem d_Gr_mustGo_38 : decode m_Gr_mustGo.2.1 38 = .ok (.getfield 33, 3) := by decide +kernel
theorem d_Gr_mustGo_41 : decode m_Gr_mustGo.2.1 41 = .ok (.iload 5, 2) := by decide +kernel
theorem d_Gr_mustGo_43 : decode m_Gr_mustGo.2.1 43 = .ok (.iload_n 2, 1) := by decide +kernel
theorem d_Gr_mustGo_44 : decode m_Gr_mustGo.2.1 44 = .ok (.invokevirtual 165, 3) := by decide +kernel
theorem lk_Gr_165 : Cond.methodLink "MaypoleGreen$Green" 165 m_Pl_has.1 ∈ aw_T := aw_in 870 (by decide +kernel) rfl
theorem in_Pl_has : Cond.instanceMethod m_Pl_has.1 ∈ aw_T := aw_in 871 (by decide +kernel) rfl
theorem se_Pl_has : Cond.selects m_Pl_has.1.cls m_Pl_has.1 m_Pl_has.1 ∈ aw_T := aw_in 872 (by decide +kernel) rfl
theorem d_Gr_mustGo_47 : decode m_Gr_mustGo.2.1 47 = .ok (.ifCond .eq 7, 3) := by decide +kernel
theorem d_Gr_mustGo_54 : decode m_Gr_mustGo.2.1 54 = .ok (.iconst 0, 1) := by decide +kernel
theorem d_Gr_mustGo_62 : decode m_Gr_mustGo.2.1 62 = .ok (.aload_n 0, 1) := by decide +kernel
theorem d_Gr_mustGo_63 : decode m_Gr_mustGo.2.1 63 = .ok (.iload 6, 2) := by decide +kernel
theorem d_Gr_mustGo_65 : decode m_Gr_mustGo.2.1 65 = .ok (.invokevirtual 92, 3) := by decide +kernel
theorem d_Gr_mustGo_68 : decode m_Gr_mustGo.2.1 68 = .ok (.iload 4, 2) := by decide +kernel
theorem d_Gr_mustGo_70 : decode m_Gr_mustGo.2.1 70 = .ok (.iand, 1) := by decide +kernel
theorem d_Gr_mustGo_71 : decode m_Gr_mustGo.2.1 71 = .ok (.ifCond .eq 15, 3) := by decide +kernel
abbrev m_Gr_colourIn : aw_MI := (⟨"MaypoleGreen$Green", "colourIn", "(II)I"⟩, prog_4_method_21_code, 4, some .int)
theorem k_Gr_colourIn : aw_K m_Gr_colourIn 2 := ⟨aw_in 886 (by decide +kernel) rfl, aw_in 3 (by decide +kernel) rfl, ⟨by decide, by decide, by decide +kernel⟩, by decide, by decide +kernel⟩
theorem d_Gr_colourIn_0 : decode m_Gr_colourIn.2.1 0 = .ok (.aload_n 0, 1) := by decide +kernel
theorem d_Gr_colourIn_1 : decode m_Gr_colourIn.2.1 1 = .ok (.getfield 33, 3) := by decide +kernel
theorem d_Gr_colourIn_4 : decode m_Gr_colourIn.2.1 4 = .ok (.iload_n 1, 1) := by decide +kernel
theorem d_Gr_colourIn_5 : decode m_Gr_colourIn.2.1 5 = .ok (.iload_n 2, 1) := by decide +kernel
theorem d_Gr_colourIn_6 : decode m_Gr_colourIn.2.1 6 = .ok (.invokevirtual 145, 3) := by decide +kernel
theorem lk_Gr_145 : Cond.methodLink "MaypoleGreen$Green" 145 m_Pl_latestIn.1 ∈ aw_T := aw_in 887 (by decide +kernel) rfl
theorem in_Pl_latestIn : Cond.instanceMethod m_Pl_latestIn.1 ∈ aw_T := aw_in 888 (by decide +kernel) rfl
theorem se_Pl_latestIn : Cond.selects m_Pl_latestIn.1.cls m_Pl_latestIn.1 m_Pl_latestIn.1 ∈ aw_T := aw_in 889 (by decide +kernel) rfl
theorem d_Gr_colourIn_9 : decode m_Gr_colourIn.2.1 9 = .ok (.istore_n 3, 1) := by decide +kernel
theorem d_Gr_colourIn_10 : decode m_Gr_colourIn.2.1 10 = .ok (.iload_n 3, 1) := by decide +kernel
theorem d_Gr_colourIn_11 : decode m_Gr_colourIn.2.1 11 = .ok (.iconst (-1), 1) := by decide +kernel
theorem d_Gr_colourIn_12 : decode m_Gr_colourIn.2.1 12 = .ok (.if_icmp .ne 8, 3) := by decide +kernel
theorem d_Gr_colourIn_20 : decode m_Gr_colourIn.2.1 20 = .ok (.aload_n 0, 1) := by decide +kernel
theorem d_Gr_colourIn_21 : decode m_Gr_colourIn.2.1 21 = .ok (.getfield 15, 3) := by decide +kernel
theorem d_Gr_colourIn_24 : decode m_Gr_colourIn.2.1 24 = .ok (.aload_n 0, 1) := by decide +kernel
theorem d_Gr_colourIn_25 : decode m_Gr_colourIn.2.1 25 = .ok (.getfield 33, 3) := by decide +kernel
theorem d_Gr_colourIn_28 : decode m_Gr_colourIn.2.1 28 = .ok (.iload_n 3, 1) := by decide +kernel
theorem d_Gr_colourIn_29 : decode m_Gr_colourIn.2.1 29 = .ok (.invokevirtual 127, 3) := by decide +kernel
theorem d_Gr_colourIn_32 : decode m_Gr_colourIn.2.1 32 = .ok (.iaload, 1) := by decide +kernel
theorem d_Gr_colourIn_33 : decode m_Gr_colourIn.2.1 33 = .ok (.ireturn, 1) := by decide +kernel
theorem d_Gr_colourIn_15 : decode m_Gr_colourIn.2.1 15 = .ok (.bipush 6, 2) := by decide +kernel
theorem d_Gr_colourIn_17 : decode m_Gr_colourIn.2.1 17 = .ok (.goto 16, 3) := by decide +kernel
abbrev m_Gr_doBack : aw_MI := (⟨"MaypoleGreen$Green", "doBack", "()Z"⟩, prog_4_method_15_code, 1, some .boolean)
theorem k_Gr_doBack : aw_K m_Gr_doBack 0 := ⟨aw_in 912 (by decide +kernel) rfl, aw_in 3 (by decide +kernel) rfl, ⟨by decide, by decide, by decide +kernel⟩, by decide, by decide +kernel⟩
theorem d_Gr_doBack_0 : decode m_Gr_doBack.2.1 0 = .ok (.aload_n 0, 1) := by decide +kernel
theorem d_Gr_doBack_1 : decode m_Gr_doBack.2.1 1 = .ok (.getfield 33, 3) := by decide +kernel
theorem d_Gr_doBack_4 : decode m_Gr_doBack.2.1 4 = .ok (.getfield 57, 3) := by decide +kernel
theorem d_Gr_doBack_7 : decode m_Gr_doBack.2.1 7 = .ok (.ifCond .ne 5, 3) := by decide +kernel
theorem d_Gr_doBack_12 : decode m_Gr_doBack.2.1 12 = .ok (.aload_n 0, 1) := by decide +kernel
theorem d_Gr_doBack_13 : decode m_Gr_doBack.2.1 13 = .ok (.aload_n 0, 1) := by decide +kernel
theorem d_Gr_doBack_14 : decode m_Gr_doBack.2.1 14 = .ok (.getfield 33, 3) := by decide +kernel
theorem d_Gr_doBack_17 : decode m_Gr_doBack.2.1 17 = .ok (.getfield 57, 3) := by decide +kernel
theorem d_Gr_doBack_20 : decode m_Gr_doBack.2.1 20 = .ok (.iconst 1, 1) := by decide +kernel
theorem d_Gr_doBack_21 : decode m_Gr_doBack.2.1 21 = .ok (.isub, 1) := by decide +kernel
theorem d_Gr_doBack_22 : decode m_Gr_doBack.2.1 22 = .ok (.invokevirtual 102, 3) := by decide +kernel
theorem d_Gr_doBack_25 : decode m_Gr_doBack.2.1 25 = .ok (.aload_n 0, 1) := by decide +kernel
theorem d_Gr_doBack_26 : decode m_Gr_doBack.2.1 26 = .ok (.dup, 1) := by decide +kernel
theorem d_Gr_doBack_27 : decode m_Gr_doBack.2.1 27 = .ok (.getfield 69, 3) := by decide +kernel
theorem d_Gr_doBack_30 : decode m_Gr_doBack.2.1 30 = .ok (.iconst 1, 1) := by decide +kernel
theorem d_Gr_doBack_31 : decode m_Gr_doBack.2.1 31 = .ok (.iadd, 1) := by decide +kernel
theorem d_Gr_doBack_32 : decode m_Gr_doBack.2.1 32 = .ok (.putfield 69, 3) := by decide +kernel
theorem d_Gr_doBack_35 : decode m_Gr_doBack.2.1 35 = .ok (.iconst 1, 1) := by decide +kernel
theorem d_Gr_doBack_36 : decode m_Gr_doBack.2.1 36 = .ok (.ireturn, 1) := by decide +kernel
theorem d_Gr_doBack_10 : decode m_Gr_doBack.2.1 10 = .ok (.iconst 0, 1) := by decide +kernel
theorem d_Gr_doBack_11 : decode m_Gr_doBack.2.1 11 = .ok (.ireturn, 1) := by decide +kernel
abbrev m_Gr_weaveTimes : aw_MI := (⟨"MaypoleGreen$Green", "weaveTimes", "(I)I"⟩, prog_4_method_16_code, 9, some .int)
theorem k_Gr_weaveTimes : aw_K m_Gr_weaveTimes 1 := ⟨aw_in 920 (by decide +kernel) rfl, aw_in 3 (by decide +kernel) rfl, ⟨by decide, by decide, by decide +kernel⟩, by decide, by decide +kernel⟩
theorem d_Gr_weaveTimes_0 : decode m_Gr_weaveTimes.2.1 0 = .ok (.iconst 0, 1) := by decide +kernel
theorem d_Gr_weaveTimes_1 : decode m_Gr_weaveTimes.2.1 1 = .ok (.istore_n 2, 1) := by decide +kernel
theorem d_Gr_weaveTimes_2 : decode m_Gr_weaveTimes.2.1 2 = .ok (.aload_n 0, 1) := by decide +kernel
theorem d_Gr_weaveTimes_3 : decode m_Gr_weaveTimes.2.1 3 = .ok (.invokevirtual 117, 3) := by decide +kernel
theorem lk_Gr_117 : Cond.methodLink "MaypoleGreen$Green" 117 m_Gr_gaps.1 ∈ aw_T := aw_in 921 (by decide +kernel) rfl
theorem in_Gr_gaps : Cond.instanceMethod m_Gr_gaps.1 ∈ aw_T := aw_in 654 (by decide +kernel) rfl
theorem se_Gr_gaps : Cond.selects m_Gr_gaps.1.cls m_Gr_gaps.1 m_Gr_gaps.1 ∈ aw_T := aw_in 655 (by decide +kernel) rfl
theorem d_Gr_weaveTimes_6 : decode m_Gr_weaveTimes.2.1 6 = .ok (.istore_n 3, 1) := by decide +kernel
theorem d_Gr_weaveTimes_7 : decode m_Gr_weaveTimes.2.1 7 = .ok (.iconst 1, 1) := by decide +kernel
theorem d_Gr_weaveTimes_8 : decode m_Gr_weaveTimes.2.1 8 = .ok (.istore 4, 2) := by decide +kernel
theorem d_Gr_weaveTimes_10 : decode m_Gr_weaveTimes.2.1 10 = .ok (.iconst 0, 1) := by decide +kernel
theorem d_Gr_weaveTimes_11 : decode m_Gr_weaveTimes.2.1 11 = .ok (.istore 5, 2) := by decide +kernel
theorem d_Gr_weaveTimes_13 : decode m_Gr_weaveTimes.2.1 13 = .ok (.iload 5, 2) := by decide +kernel
theorem d_Gr_weaveTimes_15 : decode m_Gr_weaveTimes.2.1 15 = .ok (.iload_n 1, 1) := by decide +kernel
theorem d_Gr_weaveTimes_16 : decode m_Gr_weaveTimes.2.1 16 = .ok (.if_icmp .ge 120, 3) := by decide +kernel
theorem d_Gr_weaveTimes_136 : decode m_Gr_weaveTimes.2.1 136 = .ok (.iload_n 2, 1) := by decide +kernel
theorem d_Gr_weaveTimes_137 : decode m_Gr_weaveTimes.2.1 137 = .ok (.ireturn, 1) := by decide +kernel
theorem d_Gr_weaveTimes_19 : decode m_Gr_weaveTimes.2.1 19 = .ok (.iload 4, 2) := by decide +kernel
theorem d_Gr_weaveTimes_21 : decode m_Gr_weaveTimes.2.1 21 = .ok (.ifCond .eq 115, 3) := by decide +kernel
theorem d_Gr_weaveTimes_24 : decode m_Gr_weaveTimes.2.1 24 = .ok (.iload_n 2, 1) := by decide +kernel
theorem d_Gr_weaveTimes_25 : decode m_Gr_weaveTimes.2.1 25 = .ok (.istore 6, 2) := by decide +kernel
theorem d_Gr_weaveTimes_27 : decode m_Gr_weaveTimes.2.1 27 = .ok (.iconst 0, 1) := by decide +kernel
theorem d_Gr_weaveTimes_28 : decode m_Gr_weaveTimes.2.1 28 = .ok (.istore 7, 2) := by decide +kernel
theorem d_Gr_weaveTimes_30 : decode m_Gr_weaveTimes.2.1 30 = .ok (.iload 7, 2) := by decide +kernel
theorem d_Gr_weaveTimes_32 : decode m_Gr_weaveTimes.2.1 32 = .ok (.iload_n 3, 1) := by decide +kernel
theorem d_Gr_weaveTimes_33 : decode m_Gr_weaveTimes.2.1 33 = .ok (.if_icmp .ge 54, 3) := by decide +kernel
theorem d_Gr_weaveTimes_87 : decode m_Gr_weaveTimes.2.1 87 = .ok (.iconst 1, 1) := by decide +kernel
theorem d_Gr_weaveTimes_88 : decode m_Gr_weaveTimes.2.1 88 = .ok (.istore 7, 2) := by decide +kernel
theorem d_Gr_weaveTimes_36 : decode m_Gr_weaveTimes.2.1 36 = .ok (.iload 7, 2) := by decide +kernel
theorem d_Gr_weaveTimes_38 : decode m_Gr_weaveTimes.2.1 38 = .ok (.ifCond .le 18, 3) := by decide +kernel
theorem d_Gr_weaveTimes_56 : decode m_Gr_weaveTimes.2.1 56 = .ok (.iconst 0, 1) := by decide +kernel
theorem d_Gr_weaveTimes_57 : decode m_Gr_weaveTimes.2.1 57 = .ok (.istore 8, 2) := by decide +kernel
theorem d_Gr_weaveTimes_59 : decode m_Gr_weaveTimes.2.1 59 = .ok (.iload 8, 2) := by decide +kernel
theorem d_Gr_weaveTimes_61 : decode m_Gr_weaveTimes.2.1 61 = .ok (.ifCond .ne 20, 3) := by decide +kernel
theorem d_Gr_weaveTimes_64 : decode m_Gr_weaveTimes.2.1 64 = .ok (.aload_n 0, 1) := by decide +kernel
theorem d_Gr_weaveTimes_65 : decode m_Gr_weaveTimes.2.1 65 = .ok (.iconst 2, 1) := by decide +kernel
theorem d_Gr_weaveTimes_66 : decode m_Gr_weaveTimes.2.1 66 = .ok (.iload 7, 2) := by decide +kernel
theorem d_Gr_weaveTimes_68 : decode m_Gr_weaveTimes.2.1 68 = .ok (.imul, 1) := by decide +kernel
theorem d_Gr_weaveTimes_69 : decode m_Gr_weaveTimes.2.1 69 = .ok (.iconst 1, 1) := by decide +kernel
theorem d_Gr_weaveTimes_70 : decode m_Gr_weaveTimes.2.1 70 = .ok (.iadd, 1) := by decide +kernel
theorem d_Gr_weaveTimes_71 : decode m_Gr_weaveTimes.2.1 71 = .ok (.invokevirtual 121, 3) := by decide +kernel
theorem lk_Gr_121 : Cond.methodLink "MaypoleGreen$Green" 121 m_Gr_makePass.1 ∈ aw_T := aw_in 922 (by decide +kernel) rfl
theorem in_Gr_makePass : Cond.instanceMethod m_Gr_makePass.1 ∈ aw_T := aw_in 662 (by decide +kernel) rfl
theorem se_Gr_makePass : Cond.selects m_Gr_makePass.1.cls m_Gr_makePass.1 m_Gr_makePass.1 ∈ aw_T := aw_in 663 (by decide +kernel) rfl
theorem d_Gr_weaveTimes_74 : decode m_Gr_weaveTimes.2.1 74 = .ok (.iconst (-1), 1) := by decide +kernel
theorem d_Gr_weaveTimes_75 : decode m_Gr_weaveTimes.2.1 75 = .ok (.if_icmp .eq 6, 3) := by decide +kernel
theorem d_Gr_weaveTimes_81 : decode m_Gr_weaveTimes.2.1 81 = .ok (.iinc 7 2, 3) := by decide +kernel
theorem d_Gr_weaveTimes_84 : decode m_Gr_weaveTimes.2.1 84 = .ok (.goto (-54), 3) := by decide +kernel
theorem d_Gr_weaveTimes_78 : decode m_Gr_weaveTimes.2.1 78 = .ok (.iinc 2 1, 3) := by decide +kernel
theorem d_Gr_weaveTimes_41 : decode m_Gr_weaveTimes.2.1 41 = .ok (.aload_n 0, 1) := by decide +kernel
theorem d_Gr_weaveTimes_42 : decode m_Gr_weaveTimes.2.1 42 = .ok (.iload 7, 2) := by decide +kernel
theorem d_Gr_weaveTimes_44 : decode m_Gr_weaveTimes.2.1 44 = .ok (.invokevirtual 92, 3) := by decide +kernel
theorem d_Gr_weaveTimes_47 : decode m_Gr_weaveTimes.2.1 47 = .ok (.iconst 1, 1) := by decide +kernel
theorem d_Gr_weaveTimes_48 : decode m_Gr_weaveTimes.2.1 48 = .ok (.iand, 1) := by decide +kernel
theorem d_Gr_weaveTimes_49 : decode m_Gr_weaveTimes.2.1 49 = .ok (.ifCond .eq 7, 3) := by decide +kernel
theorem d_Gr_weaveTimes_52 : decode m_Gr_weaveTimes.2.1 52 = .ok (.iconst 1, 1) := by decide +kernel
theorem d_Gr_weaveTimes_53 : decode m_Gr_weaveTimes.2.1 53 = .ok (.goto 4, 3) := by decide +kernel
theorem d_Gr_weaveTimes_90 : decode m_Gr_weaveTimes.2.1 90 = .ok (.iload 7, 2) := by decide +kernel
theorem d_Gr_weaveTimes_92 : decode m_Gr_weaveTimes.2.1 92 = .ok (.iload_n 3, 1) := by decide +kernel
theorem d_Gr_weaveTimes_93 : decode m_Gr_weaveTimes.2.1 93 = .ok (.if_icmp .ge 24, 3) := by decide +kernel
theorem d_Gr_weaveTimes_117 : decode m_Gr_weaveTimes.2.1 117 = .ok (.iload_n 2, 1) := by decide +kernel
theorem d_Gr_weaveTimes_118 : decode m_Gr_weaveTimes.2.1 118 = .ok (.iload 6, 2) := by decide +kernel
theorem d_Gr_weaveTimes_120 : decode m_Gr_weaveTimes.2.1 120 = .ok (.if_icmp .le 7, 3) := by decide +kernel
theorem d_Gr_weaveTimes_127 : decode m_Gr_weaveTimes.2.1 127 = .ok (.iconst 0, 1) := by decide +kernel
theorem d_Gr_weaveTimes_128 : decode m_Gr_weaveTimes.2.1 128 = .ok (.istore 4, 2) := by decide +kernel
theorem d_Gr_weaveTimes_130 : decode m_Gr_weaveTimes.2.1 130 = .ok (.iinc 5 1, 3) := by decide +kernel
theorem d_Gr_weaveTimes_133 : decode m_Gr_weaveTimes.2.1 133 = .ok (.goto (-120), 3) := by decide +kernel
theorem d_Gr_weaveTimes_123 : decode m_Gr_weaveTimes.2.1 123 = .ok (.iconst 1, 1) := by decide +kernel
theorem d_Gr_weaveTimes_124 : decode m_Gr_weaveTimes.2.1 124 = .ok (.goto 4, 3) := by decide +kernel
theorem d_Gr_weaveTimes_96 : decode m_Gr_weaveTimes.2.1 96 = .ok (.aload_n 0, 1) := by decide +kernel
theorem d_Gr_weaveTimes_97 : decode m_Gr_weaveTimes.2.1 97 = .ok (.iconst 2, 1) := by decide +kernel
theorem d_Gr_weaveTimes_98 : decode m_Gr_weaveTimes.2.1 98 = .ok (.iload 7, 2) := by decide +kernel
theorem d_Gr_weaveTimes_100 : decode m_Gr_weaveTimes.2.1 100 = .ok (.imul, 1) := by decide +kernel
theorem d_Gr_weaveTimes_101 : decode m_Gr_weaveTimes.2.1 101 = .ok (.invokevirtual 121, 3) := by decide +kernel
theorem d_Gr_weaveTimes_104 : decode m_Gr_weaveTimes.2.1 104 = .ok (.iconst (-1), 1) := by decide +kernel
theorem d_Gr_weaveTimes_105 : decode m_Gr_weaveTimes.2.1 105 = .ok (.if_icmp .eq 6, 3) := by decide +kernel
theorem d_Gr_weaveTimes_111 : decode m_Gr_weaveTimes.2.1 111 = .ok (.iinc 7 2, 3) := by decide +kernel
theorem d_Gr_weaveTimes_114 : decode m_Gr_weaveTimes.2.1 114 = .ok (.goto (-24), 3) := by decide +kernel
theorem d_Gr_weaveTimes_108 : decode m_Gr_weaveTimes.2.1 108 = .ok (.iinc 2 1, 3) := by decide +kernel
abbrev m_Gr_copyFrom : aw_MI := (⟨"MaypoleGreen$Green", "copyFrom", "(LMaypoleGreen$Green;)V"⟩, prog_4_method_4_code, 2, none)
theorem k_Gr_copyFrom : aw_K m_Gr_copyFrom 1 := ⟨aw_in 1052 (by decide +kernel) rfl, aw_in 3 (by decide +kernel) rfl, ⟨by decide, by decide, by decide +kernel⟩, by decide, by decide +kernel⟩
theorem d_Gr_copyFrom_0 : decode m_Gr_copyFrom.2.1 0 = .ok (.aload_n 0, 1) := by decide +kernel
theorem d_Gr_copyFrom_1 : decode m_Gr_copyFrom.2.1 1 = .ok (.aload_n 1, 1) := by decide +kernel
theorem d_Gr_copyFrom_2 : decode m_Gr_copyFrom.2.1 2 = .ok (.getfield 54, 3) := by decide +kernel
theorem d_Gr_copyFrom_5 : decode m_Gr_copyFrom.2.1 5 = .ok (.putfield 54, 3) := by decide +kernel
theorem d_Gr_copyFrom_8 : decode m_Gr_copyFrom.2.1 8 = .ok (.aload_n 0, 1) := by decide +kernel
theorem d_Gr_copyFrom_9 : decode m_Gr_copyFrom.2.1 9 = .ok (.aload_n 1, 1) := by decide +kernel
theorem d_Gr_copyFrom_10 : decode m_Gr_copyFrom.2.1 10 = .ok (.getfield 47, 3) := by decide +kernel
theorem d_Gr_copyFrom_13 : decode m_Gr_copyFrom.2.1 13 = .ok (.putfield 47, 3) := by decide +kernel
theorem d_Gr_copyFrom_16 : decode m_Gr_copyFrom.2.1 16 = .ok (.aload_n 0, 1) := by decide +kernel
theorem d_Gr_copyFrom_17 : decode m_Gr_copyFrom.2.1 17 = .ok (.aload_n 1, 1) := by decide +kernel
theorem d_Gr_copyFrom_18 : decode m_Gr_copyFrom.2.1 18 = .ok (.getfield 51, 3) := by decide +kernel
theorem d_Gr_copyFrom_21 : decode m_Gr_copyFrom.2.1 21 = .ok (.putfield 51, 3) := by decide +kernel
theorem d_Gr_copyFrom_24 : decode m_Gr_copyFrom.2.1 24 = .ok (.aload_n 0, 1) := by decide +kernel
theorem d_Gr_copyFrom_25 : decode m_Gr_copyFrom.2.1 25 = .ok (.aload_n 1, 1) := by decide +kernel
theorem d_Gr_copyFrom_26 : decode m_Gr_copyFrom.2.1 26 = .ok (.getfield 66, 3) := by decide +kernel
theorem d_Gr_copyFrom_29 : decode m_Gr_copyFrom.2.1 29 = .ok (.putfield 66, 3) := by decide +kernel
theorem d_Gr_copyFrom_32 : decode m_Gr_copyFrom.2.1 32 = .ok (.aload_n 0, 1) := by decide +kernel
theorem d_Gr_copyFrom_33 : decode m_Gr_copyFrom.2.1 33 = .ok (.aload_n 1, 1) := by decide +kernel
theorem d_Gr_copyFrom_34 : decode m_Gr_copyFrom.2.1 34 = .ok (.getfield 69, 3) := by decide +kernel
theorem d_Gr_copyFrom_37 : decode m_Gr_copyFrom.2.1 37 = .ok (.putfield 69, 3) := by decide +kernel
theorem d_Gr_copyFrom_40 : decode m_Gr_copyFrom.2.1 40 = .ok (.aload_n 1, 1) := by decide +kernel
theorem d_Gr_copyFrom_41 : decode m_Gr_copyFrom.2.1 41 = .ok (.getfield 9, 3) := by decide +kernel
theorem d_Gr_copyFrom_44 : decode m_Gr_copyFrom.2.1 44 = .ok (.iconst 0, 1) := by decide +kernel
theorem d_Gr_copyFrom_45 : decode m_Gr_copyFrom.2.1 45 = .ok (.aload_n 0, 1) := by decide +kernel
theorem d_Gr_copyFrom_46 : decode m_Gr_copyFrom.2.1 46 = .ok (.getfield 9, 3) := by decide +kernel
theorem d_Gr_copyFrom_49 : decode m_Gr_copyFrom.2.1 49 = .ok (.iconst 0, 1) := by decide +kernel
theorem d_Gr_copyFrom_50 : decode m_Gr_copyFrom.2.1 50 = .ok (.bipush 7, 2) := by decide +kernel
theorem d_Gr_copyFrom_52 : decode m_Gr_copyFrom.2.1 52 = .ok (.invokestatic 72, 3) := by decide +kernel
theorem ck_Gr_72 : Cond.methodLink "MaypoleGreen$Green" 72 arraycopyName ∈ aw_T := aw_in 1053 (by decide +kernel) rfl
theorem d_Gr_copyFrom_55 : decode m_Gr_copyFrom.2.1 55 = .ok (.aload_n 1, 1) := by decide +kernel
theorem d_Gr_copyFrom_56 : decode m_Gr_copyFrom.2.1 56 = .ok (.getfield 15, 3) := by decide +kernel
theorem d_Gr_copyFrom_59 : decode m_Gr_copyFrom.2.1 59 = .ok (.iconst 0, 1) := by decide +kernel
theorem d_Gr_copyFrom_60 : decode m_Gr_copyFrom.2.1 60 = .ok (.aload_n 0, 1) := by decide +kernel
theorem d_Gr_copyFrom_61 : decode m_Gr_copyFrom.2.1 61 = .ok (.getfield 15, 3) := by decide +kernel
theorem d_Gr_copyFrom_64 : decode m_Gr_copyFrom.2.1 64 = .ok (.iconst 0, 1) := by decide +kernel
theorem d_Gr_copyFrom_65 : decode m_Gr_copyFrom.2.1 65 = .ok (.bipush 7, 2) := by decide +kernel
theorem d_Gr_copyFrom_67 : decode m_Gr_copyFrom.2.1 67 = .ok (.invokestatic 72, 3) := by decide +kernel
theorem d_Gr_copyFrom_70 : decode m_Gr_copyFrom.2.1 70 = .ok (.aload_n 1, 1) := by decide +kernel
theorem d_Gr_copyFrom_71 : decode m_Gr_copyFrom.2.1 71 = .ok (.getfield 19, 3) := by decide +kernel
theorem d_Gr_copyFrom_74 : decode m_Gr_copyFrom.2.1 74 = .ok (.iconst 0, 1) := by decide +kernel
theorem d_Gr_copyFrom_75 : decode m_Gr_copyFrom.2.1 75 = .ok (.aload_n 0, 1) := by decide +kernel
theorem d_Gr_copyFrom_76 : decode m_Gr_copyFrom.2.1 76 = .ok (.getfield 19, 3) := by decide +kernel
theorem d_Gr_copyFrom_79 : decode m_Gr_copyFrom.2.1 79 = .ok (.iconst 0, 1) := by decide +kernel
theorem d_Gr_copyFrom_80 : decode m_Gr_copyFrom.2.1 80 = .ok (.bipush 7, 2) := by decide +kernel
theorem d_Gr_copyFrom_82 : decode m_Gr_copyFrom.2.1 82 = .ok (.invokestatic 72, 3) := by decide +kernel
theorem d_Gr_copyFrom_85 : decode m_Gr_copyFrom.2.1 85 = .ok (.aload_n 1, 1) := by decide +kernel
theorem d_Gr_copyFrom_86 : decode m_Gr_copyFrom.2.1 86 = .ok (.getfield 22, 3) := by decide +kernel
theorem d_Gr_copyFrom_89 : decode m_Gr_copyFrom.2.1 89 = .ok (.iconst 0, 1) := by decide +kernel
theorem d_Gr_copyFrom_90 : decode m_Gr_copyFrom.2.1 90 = .ok (.aload_n 0, 1) := by decide +kernel
theorem d_Gr_copyFrom_91 : decode m_Gr_copyFrom.2.1 91 = .ok (.getfield 22, 3) := by decide +kernel
theorem d_Gr_copyFrom_94 : decode m_Gr_copyFrom.2.1 94 = .ok (.iconst 0, 1) := by decide +kernel
theorem d_Gr_copyFrom_95 : decode m_Gr_copyFrom.2.1 95 = .ok (.bipush 7, 2) := by decide +kernel
theorem d_Gr_copyFrom_97 : decode m_Gr_copyFrom.2.1 97 = .ok (.invokestatic 72, 3) := by decide +kernel
theorem d_Gr_copyFrom_100 : decode m_Gr_copyFrom.2.1 100 = .ok (.aload_n 1, 1) := by decide +kernel
theorem d_Gr_copyFrom_101 : decode m_Gr_copyFrom.2.1 101 = .ok (.getfield 25, 3) := by decide +kernel
theorem d_Gr_copyFrom_104 : decode m_Gr_copyFrom.2.1 104 = .ok (.iconst 0, 1) := by decide +kernel
theorem d_Gr_copyFrom_105 : decode m_Gr_copyFrom.2.1 105 = .ok (.aload_n 0, 1) := by decide +kernel
theorem d_Gr_copyFrom_106 : decode m_Gr_copyFrom.2.1 106 = .ok (.getfield 25, 3) := by decide +kernel
theorem d_Gr_copyFrom_109 : decode m_Gr_copyFrom.2.1 109 = .ok (.iconst 0, 1) := by decide +kernel
theorem d_Gr_copyFrom_110 : decode m_Gr_copyFrom.2.1 110 = .ok (.bipush 7, 2) := by decide +kernel
theorem d_Gr_copyFrom_112 : decode m_Gr_copyFrom.2.1 112 = .ok (.invokestatic 72, 3) := by decide +kernel
theorem d_Gr_copyFrom_115 : decode m_Gr_copyFrom.2.1 115 = .ok (.aload_n 0, 1) := by decide +kernel
theorem d_Gr_copyFrom_116 : decode m_Gr_copyFrom.2.1 116 = .ok (.getfield 33, 3) := by decide +kernel
theorem d_Gr_copyFrom_119 : decode m_Gr_copyFrom.2.1 119 = .ok (.aload_n 1, 1) := by decide +kernel
theorem d_Gr_copyFrom_120 : decode m_Gr_copyFrom.2.1 120 = .ok (.getfield 33, 3) := by decide +kernel
theorem d_Gr_copyFrom_123 : decode m_Gr_copyFrom.2.1 123 = .ok (.invokevirtual 78, 3) := by decide +kernel
theorem lk_Gr_78 : Cond.methodLink "MaypoleGreen$Green" 78 m_Pl_copyFrom.1 ∈ aw_T := aw_in 1054 (by decide +kernel) rfl
theorem in_Pl_copyFrom : Cond.instanceMethod m_Pl_copyFrom.1 ∈ aw_T := aw_in 1055 (by decide +kernel) rfl
theorem se_Pl_copyFrom : Cond.selects m_Pl_copyFrom.1.cls m_Pl_copyFrom.1 m_Pl_copyFrom.1 ∈ aw_T := aw_in 1056 (by decide +kernel) rfl
theorem d_Gr_copyFrom_126 : decode m_Gr_copyFrom.2.1 126 = .ok (.return_, 1) := by decide +kernel
abbrev m_Gr_fillColours : aw_MI := (⟨"MaypoleGreen$Green", "fillColours", "([I)V"⟩, prog_4_method_22_code, 3, none)
theorem k_Gr_fillColours : aw_K m_Gr_fillColours 1 := ⟨aw_in 1079 (by decide +kernel) rfl, aw_in 3 (by decide +kernel) rfl, ⟨by decide, by decide, by decide +kernel⟩, by decide, by decide +kernel⟩
theorem d_Gr_fillColours_0 : decode m_Gr_fillColours.2.1 0 = .ok (.aload_n 1, 1) := by decide +kernel
theorem d_Gr_fillColours_1 : decode m_Gr_fillColours.2.1 1 = .ok (.bipush 6, 2) := by decide +kernel
theorem d_Gr_fillColours_3 : decode m_Gr_fillColours.2.1 3 = .ok (.invokestatic 148, 3) := by decide +kernel
theorem d_Gr_fillColours_6 : decode m_Gr_fillColours.2.1 6 = .ok (.iconst 0, 1) := by decide +kernel
theorem d_Gr_fillColours_7 : decode m_Gr_fillColours.2.1 7 = .ok (.istore_n 2, 1) := by decide +kernel
theorem d_Gr_fillColours_8 : decode m_Gr_fillColours.2.1 8 = .ok (.iload_n 2, 1) := by decide +kernel
theorem d_Gr_fillColours_9 : decode m_Gr_fillColours.2.1 9 = .ok (.aload_n 0, 1) := by decide +kernel
theorem d_Gr_fillColours_10 : decode m_Gr_fillColours.2.1 10 = .ok (.getfield 33, 3) := by decide +kernel
theorem d_Gr_fillColours_13 : decode m_Gr_fillColours.2.1 13 = .ok (.getfield 57, 3) := by decide +kernel
theorem d_Gr_fillColours_16 : decode m_Gr_fillColours.2.1 16 = .ok (.if_icmp .ge 32, 3) := by decide +kernel
theorem d_Gr_fillColours_48 : decode m_Gr_fillColours.2.1 48 = .ok (.return_, 1) := by decide +kernel
theorem d_Gr_fillColours_19 : decode m_Gr_fillColours.2.1 19 = .ok (.aload_n 1, 1) := by decide +kernel
theorem d_Gr_fillColours_20 : decode m_Gr_fillColours.2.1 20 = .ok (.aload_n 0, 1) := by decide +kernel
theorem d_Gr_fillColours_21 : decode m_Gr_fillColours.2.1 21 = .ok (.getfield 33, 3) := by decide +kernel
theorem d_Gr_fillColours_24 : decode m_Gr_fillColours.2.1 24 = .ok (.iload_n 2, 1) := by decide +kernel
theorem d_Gr_fillColours_25 : decode m_Gr_fillColours.2.1 25 = .ok (.invokevirtual 133, 3) := by decide +kernel
theorem d_Gr_fillColours_28 : decode m_Gr_fillColours.2.1 28 = .ok (.aload_n 0, 1) := by decide +kernel
theorem d_Gr_fillColours_29 : decode m_Gr_fillColours.2.1 29 = .ok (.getfield 15, 3) := by decide +kernel
theorem d_Gr_fillColours_32 : decode m_Gr_fillColours.2.1 32 = .ok (.aload_n 0, 1) := by decide +kernel
theorem d_Gr_fillColours_33 : decode m_Gr_fillColours.2.1 33 = .ok (.getfield 33, 3) := by decide +kernel
theorem d_Gr_fillColours_36 : decode m_Gr_fillColours.2.1 36 = .ok (.iload_n 2, 1) := by decide +kernel
theorem d_Gr_fillColours_37 : decode m_Gr_fillColours.2.1 37 = .ok (.invokevirtual 127, 3) := by decide +kernel
theorem d_Gr_fillColours_40 : decode m_Gr_fillColours.2.1 40 = .ok (.iaload, 1) := by decide +kernel
theorem d_Gr_fillColours_41 : decode m_Gr_fillColours.2.1 41 = .ok (.iastore, 1) := by decide +kernel
theorem d_Gr_fillColours_42 : decode m_Gr_fillColours.2.1 42 = .ok (.iinc 2 1, 3) := by decide +kernel
theorem d_Gr_fillColours_45 : decode m_Gr_fillColours.2.1 45 = .ok (.goto (-37), 3) := by decide +kernel
abbrev m_Gr_colourBehind : aw_MI := (⟨"MaypoleGreen$Green", "colourBehind", "(II)I"⟩, prog_4_method_20_code, 4, some .int)
theorem k_Gr_colourBehind : aw_K m_Gr_colourBehind 2 := ⟨aw_in 1095 (by decide +kernel) rfl, aw_in 3 (by decide +kernel) rfl, ⟨by decide, by decide, by decide +kernel⟩, by decide, by decide +kernel⟩
theorem d_Gr_colourBehind_0 : decode m_Gr_colourBehind.2.1 0 = .ok (.aload_n 0, 1) := by decide +kernel
theorem d_Gr_colourBehind_1 : decode m_Gr_colourBehind.2.1 1 = .ok (.getfield 33, 3) := by decide +kernel
theorem d_Gr_colourBehind_4 : decode m_Gr_colourBehind.2.1 4 = .ok (.iload_n 1, 1) := by decide +kernel
theorem d_Gr_colourBehind_5 : decode m_Gr_colourBehind.2.1 5 = .ok (.iload_n 2, 1) := by decide +kernel
theorem d_Gr_colourBehind_6 : decode m_Gr_colourBehind.2.1 6 = .ok (.aload_n 0, 1) := by decide +kernel
theorem d_Gr_colourBehind_7 : decode m_Gr_colourBehind.2.1 7 = .ok (.iload_n 1, 1) := by decide +kernel
theorem d_Gr_colourBehind_8 : decode m_Gr_colourBehind.2.1 8 = .ok (.invokevirtual 92, 3) := by decide +kernel
theorem d_Gr_colourBehind_11 : decode m_Gr_colourBehind.2.1 11 = .ok (.invokevirtual 95, 3) := by decide +kernel
theorem d_Gr_colourBehind_14 : decode m_Gr_colourBehind.2.1 14 = .ok (.istore_n 3, 1) := by decide +kernel
theorem d_Gr_colourBehind_15 : decode m_Gr_colourBehind.2.1 15 = .ok (.iload_n 3, 1) := by decide +kernel
theorem d_Gr_colourBehind_16 : decode m_Gr_colourBehind.2.1 16 = .ok (.iconst (-1), 1) := by decide +kernel
theorem d_Gr_colourBehind_17 : decode m_Gr_colourBehind.2.1 17 = .ok (.if_icmp .eq 10, 3) := by decide +kernel
theorem d_Gr_colourBehind_27 : decode m_Gr_colourBehind.2.1 27 = .ok (.aload_n 0, 1) := by decide +kernel
theorem d_Gr_colourBehind_28 : decode m_Gr_colourBehind.2.1 28 = .ok (.iload_n 1, 1) := by decide +kernel
theorem d_Gr_colourBehind_29 : decode m_Gr_colourBehind.2.1 29 = .ok (.invokevirtual 105, 3) := by decide +kernel
theorem d_Gr_colourBehind_32 : decode m_Gr_colourBehind.2.1 32 = .ok (.ifCond .ne 5, 3) := by decide +kernel
theorem d_Gr_colourBehind_37 : decode m_Gr_colourBehind.2.1 37 = .ok (.aload_n 0, 1) := by decide +kernel
theorem d_Gr_colourBehind_38 : decode m_Gr_colourBehind.2.1 38 = .ok (.getfield 15, 3) := by decide +kernel
theorem d_Gr_colourBehind_41 : decode m_Gr_colourBehind.2.1 41 = .ok (.iload_n 2, 1) := by decide +kernel
theorem d_Gr_colourBehind_42 : decode m_Gr_colourBehind.2.1 42 = .ok (.iconst 1, 1) := by decide +kernel
theorem d_Gr_colourBehind_43 : decode m_Gr_colourBehind.2.1 43 = .ok (.if_icmp .ne 12, 3) := by decide +kernel
theorem d_Gr_colourBehind_55 : decode m_Gr_colourBehind.2.1 55 = .ok (.aload_n 0, 1) := by decide +kernel
theorem d_Gr_colourBehind_56 : decode m_Gr_colourBehind.2.1 56 = .ok (.getfield 25, 3) := by decide +kernel
theorem d_Gr_colourBehind_59 : decode m_Gr_colourBehind.2.1 59 = .ok (.aload_n 0, 1) := by decide +kernel
theorem d_Gr_colourBehind_60 : decode m_Gr_colourBehind.2.1 60 = .ok (.iload_n 1, 1) := by decide +kernel
theorem d_Gr_colourBehind_61 : decode m_Gr_colourBehind.2.1 61 = .ok (.invokevirtual 82, 3) := by decide +kernel
theorem d_Gr_colourBehind_64 : decode m_Gr_colourBehind.2.1 64 = .ok (.iaload, 1) := by decide +kernel
theorem d_Gr_colourBehind_65 : decode m_Gr_colourBehind.2.1 65 = .ok (.iaload, 1) := by decide +kernel
theorem d_Gr_colourBehind_66 : decode m_Gr_colourBehind.2.1 66 = .ok (.ireturn, 1) := by decide +kernel
theorem d_Gr_colourBehind_46 : decode m_Gr_colourBehind.2.1 46 = .ok (.aload_n 0, 1) := by decide +kernel
theorem d_Gr_colourBehind_47 : decode m_Gr_colourBehind.2.1 47 = .ok (.getfield 25, 3) := by decide +kernel
theorem d_Gr_colourBehind_50 : decode m_Gr_colourBehind.2.1 50 = .ok (.iload_n 1, 1) := by decide +kernel
theorem d_Gr_colourBehind_51 : decode m_Gr_colourBehind.2.1 51 = .ok (.iaload, 1) := by decide +kernel
theorem d_Gr_colourBehind_52 : decode m_Gr_colourBehind.2.1 52 = .ok (.goto 13, 3) := by decide +kernel
theorem d_Gr_colourBehind_35 : decode m_Gr_colourBehind.2.1 35 = .ok (.iconst (-1), 1) := by decide +kernel
theorem d_Gr_colourBehind_36 : decode m_Gr_colourBehind.2.1 36 = .ok (.ireturn, 1) := by decide +kernel
theorem d_Gr_colourBehind_20 : decode m_Gr_colourBehind.2.1 20 = .ok (.aload_n 0, 1) := by decide +kernel
theorem d_Gr_colourBehind_21 : decode m_Gr_colourBehind.2.1 21 = .ok (.iload_n 1, 1) := by decide +kernel
theorem d_Gr_colourBehind_22 : decode m_Gr_colourBehind.2.1 22 = .ok (.iload_n 3, 1) := by decide +kernel
theorem d_Gr_colourBehind_23 : decode m_Gr_colourBehind.2.1 23 = .ok (.invokevirtual 142, 3) := by decide +kernel
theorem lk_Gr_142 : Cond.methodLink "MaypoleGreen$Green" 142 m_Gr_colourIn.1 ∈ aw_T := aw_in 1096 (by decide +kernel) rfl
theorem in_Gr_colourIn : Cond.instanceMethod m_Gr_colourIn.1 ∈ aw_T := aw_in 884 (by decide +kernel) rfl
theorem se_Gr_colourIn : Cond.selects m_Gr_colourIn.1.cls m_Gr_colourIn.1 m_Gr_colourIn.1 ∈ aw_T := aw_in 885 (by decide +kernel) rfl
theorem d_Gr_colourBehind_26 : decode m_Gr_colourBehind.2.1 26 = .ok (.ireturn, 1) := by decide +kernel
abbrev m_Gr_takeBack : aw_MI := (⟨"MaypoleGreen$Green", "takeBack", "(I)V"⟩, prog_4_method_14_code, 2, none)
theorem k_Gr_takeBack : aw_K m_Gr_takeBack 1 := ⟨aw_in 1105 (by decide +kernel) rfl, aw_in 3 (by decide +kernel) rfl, ⟨by decide, by decide, by decide +kernel⟩, by decide, by decide +kernel⟩
theorem d_Gr_takeBack_0 : decode m_Gr_takeBack.2.1 0 = .ok (.iload_n 1, 1) := by decide +kernel
theorem d_Gr_takeBack_1 : decode m_Gr_takeBack.2.1 1 = .ok (.ifCond .ne 19, 3) := by decide +kernel
theorem d_Gr_takeBack_20 : decode m_Gr_takeBack.2.1 20 = .ok (.iload_n 1, 1) := by decide +kernel
theorem d_Gr_takeBack_21 : decode m_Gr_takeBack.2.1 21 = .ok (.ifCond .le 20, 3) := by decide +kernel
theorem d_Gr_takeBack_41 : decode m_Gr_takeBack.2.1 41 = .ok (.return_, 1) := by decide +kernel
theorem d_Gr_takeBack_24 : decode m_Gr_takeBack.2.1 24 = .ok (.aload_n 0, 1) := by decide +kernel
theorem d_Gr_takeBack_25 : decode m_Gr_takeBack.2.1 25 = .ok (.iload_n 1, 1) := by decide +kernel
theorem d_Gr_takeBack_26 : decode m_Gr_takeBack.2.1 26 = .ok (.iconst 1, 1) := by decide +kernel
theorem d_Gr_takeBack_27 : decode m_Gr_takeBack.2.1 27 = .ok (.isub, 1) := by decide +kernel
theorem d_Gr_takeBack_28 : decode m_Gr_takeBack.2.1 28 = .ok (.bipush 10, 2) := by decide +kernel
theorem d_Gr_takeBack_30 : decode m_Gr_takeBack.2.1 30 = .ok (.ishr, 1) := by decide +kernel
theorem d_Gr_takeBack_31 : decode m_Gr_takeBack.2.1 31 = .ok (.iload_n 1, 1) := by decide +kernel
theorem d_Gr_takeBack_32 : decode m_Gr_takeBack.2.1 32 = .ok (.iconst 1, 1) := by decide +kernel
theorem d_Gr_takeBack_33 : decode m_Gr_takeBack.2.1 33 = .ok (.isub, 1) := by decide +kernel
theorem d_Gr_takeBack_34 : decode m_Gr_takeBack.2.1 34 = .ok (.sipush 1023, 3) := by decide +kernel
theorem d_Gr_takeBack_37 : decode m_Gr_takeBack.2.1 37 = .ok (.iand, 1) := by decide +kernel
theorem d_Gr_takeBack_38 : decode m_Gr_takeBack.2.1 38 = .ok (.invokevirtual 113, 3) := by decide +kernel
theorem d_Gr_takeBack_4 : decode m_Gr_takeBack.2.1 4 = .ok (.aload_n 0, 1) := by decide +kernel
theorem d_Gr_takeBack_5 : decode m_Gr_takeBack.2.1 5 = .ok (.aload_n 0, 1) := by decide +kernel
theorem d_Gr_takeBack_6 : decode m_Gr_takeBack.2.1 6 = .ok (.getfield 33, 3) := by decide +kernel
theorem d_Gr_takeBack_9 : decode m_Gr_takeBack.2.1 9 = .ok (.getfield 57, 3) := by decide +kernel
theorem d_Gr_takeBack_12 : decode m_Gr_takeBack.2.1 12 = .ok (.iconst 1, 1) := by decide +kernel
theorem d_Gr_takeBack_13 : decode m_Gr_takeBack.2.1 13 = .ok (.isub, 1) := by decide +kernel
theorem d_Gr_takeBack_14 : decode m_Gr_takeBack.2.1 14 = .ok (.invokevirtual 102, 3) := by decide +kernel
theorem d_Gr_takeBack_17 : decode m_Gr_takeBack.2.1 17 = .ok (.goto 24, 3) := by decide +kernel
abbrev m_Gr_placeBehind : aw_MI := (⟨"MaypoleGreen$Green", "placeBehind", "(II)I"⟩, prog_4_method_9_code, 3, some .int)
theorem k_Gr_placeBehind : aw_K m_Gr_placeBehind 2 := ⟨aw_in 1169 (by decide +kernel) rfl, aw_in 3 (by decide +kernel) rfl, ⟨by decide, by decide, by decide +kernel⟩, by decide, by decide +kernel⟩
theorem d_Gr_placeBehind_0 : decode m_Gr_placeBehind.2.1 0 = .ok (.iload_n 1, 1) := by decide +kernel
theorem d_Gr_placeBehind_1 : decode m_Gr_placeBehind.2.1 1 = .ok (.iload_n 2, 1) := by decide +kernel
theorem d_Gr_placeBehind_2 : decode m_Gr_placeBehind.2.1 2 = .ok (.if_icmp .ne 9, 3) := by decide +kernel
theorem d_Gr_placeBehind_11 : decode m_Gr_placeBehind.2.1 11 = .ok (.iload_n 1, 1) := by decide +kernel
theorem d_Gr_placeBehind_12 : decode m_Gr_placeBehind.2.1 12 = .ok (.aload_n 0, 1) := by decide +kernel
theorem d_Gr_placeBehind_13 : decode m_Gr_placeBehind.2.1 13 = .ok (.iload_n 2, 1) := by decide +kernel
theorem d_Gr_placeBehind_14 : decode m_Gr_placeBehind.2.1 14 = .ok (.invokevirtual 82, 3) := by decide +kernel
theorem d_Gr_placeBehind_17 : decode m_Gr_placeBehind.2.1 17 = .ok (.if_icmp .ne 7, 3) := by decide +kernel
theorem d_Gr_placeBehind_24 : decode m_Gr_placeBehind.2.1 24 = .ok (.iload_n 1, 1) := by decide +kernel
theorem d_Gr_placeBehind_25 : decode m_Gr_placeBehind.2.1 25 = .ok (.ireturn, 1) := by decide +kernel
theorem d_Gr_placeBehind_20 : decode m_Gr_placeBehind.2.1 20 = .ok (.iload_n 2, 1) := by decide +kernel
theorem d_Gr_placeBehind_21 : decode m_Gr_placeBehind.2.1 21 = .ok (.goto 4, 3) := by decide +kernel
theorem d_Gr_placeBehind_5 : decode m_Gr_placeBehind.2.1 5 = .ok (.aload_n 0, 1) := by decide +kernel
theorem d_Gr_placeBehind_6 : decode m_Gr_placeBehind.2.1 6 = .ok (.iload_n 1, 1) := by decide +kernel
theorem d_Gr_placeBehind_7 : decode m_Gr_placeBehind.2.1 7 = .ok (.invokevirtual 82, 3) := by decide +kernel
theorem d_Gr_placeBehind_10 : decode m_Gr_placeBehind.2.1 10 = .ok (.ireturn, 1) := by decide +kernel
