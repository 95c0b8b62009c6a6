abbrev m_Ou_search : aw_MI := (⟨"MaypoleGreen$Outlook", "search", "(LMaypoleGreen$Tray;ILMaypoleGreen$Green;I)V"⟩, prog_7_method_3_code, 5, none)
theorem k_Ou_search : aw_K m_Ou_search 4 := ⟨aw_in 1061 (by decide +kernel) rfl, aw_in 14 (by decide +kernel) rfl, ⟨by decide, by decide, by decide +kernel⟩, by decide, by decide +kernel⟩
theorem d_Ou_search_0 : decode m_Ou_search.2.1 0 = .ok (.aload_n 0, 1) := by decide +kernel
theorem d_Ou_search_1 : decode m_Ou_search.2.1 1 = .ok (.aload_n 3, 1) := by decide +kernel
theorem d_Ou_search_2 : decode m_Ou_search.2.1 2 = .ok (.putfield 46, 3) := by decide +kernel
theorem f_Ou_46 : aw_F "MaypoleGreen$Outlook" 46 9 2 false := ⟨cR9, cT9, 9, fun k => cY9.getD k .int, rfl, ci9, cy9, cn9, rfl, by decide, aw_in 374 (by decide +kernel) rfl, rfl, rfl, rfl⟩
theorem d_Ou_search_5 : decode m_Ou_search.2.1 5 = .ok (.aload_n 0, 1) := by decide +kernel
theorem d_Ou_search_6 : decode m_Ou_search.2.1 6 = .ok (.aload_n 3, 1) := by decide +kernel
theorem d_Ou_search_7 : decode m_Ou_search.2.1 7 = .ok (.invokevirtual 50, 3) := by decide +kernel
theorem lk_Ou_50 : Cond.methodLink "MaypoleGreen$Outlook" 50 m_Gr_gaps.1 ∈ aw_T := aw_in 1062 (by decide +kernel) rfl
theorem d_Ou_search_10 : decode m_Ou_search.2.1 10 = .ok (.putfield 56, 3) := by decide +kernel
theorem f_Ou_56 : aw_F "MaypoleGreen$Outlook" 56 9 3 false := ⟨cR9, cT9, 9, fun k => cY9.getD k .int, rfl, ci9, cy9, cn9, rfl, by decide, aw_in 375 (by decide +kernel) rfl, rfl, rfl, rfl⟩
theorem d_Ou_search_13 : decode m_Ou_search.2.1 13 = .ok (.aload_n 0, 1) := by decide +kernel
theorem d_Ou_search_14 : decode m_Ou_search.2.1 14 = .ok (.iconst 0, 1) := by decide +kernel
theorem d_Ou_search_15 : decode m_Ou_search.2.1 15 = .ok (.putfield 59, 3) := by decide +kernel
theorem f_Ou_59 : aw_F "MaypoleGreen$Outlook" 59 9 0 false := ⟨cR9, cT9, 9, fun k => cY9.getD k .int, rfl, ci9, cy9, cn9, rfl, by decide, aw_in 370 (by decide +kernel) rfl, rfl, rfl, rfl⟩
theorem d_Ou_search_18 : decode m_Ou_search.2.1 18 = .ok (.aload_n 0, 1) := by decide +kernel
theorem d_Ou_search_19 : decode m_Ou_search.2.1 19 = .ok (.getfield 27, 3) := by decide +kernel
theorem f_Ou_27 : aw_F "MaypoleGreen$Outlook" 27 9 8 true := ⟨cR9, cT9, 9, fun k => cY9.getD k .int, rfl, ci9, cy9, cn9, rfl, by decide, aw_in 380 (by decide +kernel) rfl, rfl, rfl, rfl⟩
theorem d_Ou_search_22 : decode m_Ou_search.2.1 22 = .ok (.iconst 0, 1) := by decide +kernel
theorem d_Ou_search_23 : decode m_Ou_search.2.1 23 = .ok (.invokestatic 30, 3) := by decide +kernel
theorem lk_Ou_30 : Cond.methodLink "MaypoleGreen$Outlook" 30 m_Ar_fill_AIIV.1 ∈ aw_T := aw_in 1063 (by decide +kernel) rfl
theorem d_Ou_search_26 : decode m_Ou_search.2.1 26 = .ok (.aload_n 0, 1) := by decide +kernel
theorem d_Ou_search_27 : decode m_Ou_search.2.1 27 = .ok (.aload_n 1, 1) := by decide +kernel
theorem d_Ou_search_28 : decode m_Ou_search.2.1 28 = .ok (.iload_n 2, 1) := by decide +kernel
theorem d_Ou_search_29 : decode m_Ou_search.2.1 29 = .ok (.invokevirtual 62, 3) := by decide +kernel
abbrev m_Ou_want : aw_MI := (⟨"MaypoleGreen$Outlook", "want", "(LMaypoleGreen$Tray;I)Z"⟩, prog_7_method_2_code, 6, some .boolean)
theorem lk_Ou_62 : Cond.methodLink "MaypoleGreen$Outlook" 62 m_Ou_want.1 ∈ aw_T := aw_in 1064 (by decide +kernel) rfl
theorem k_Ou_want : aw_K m_Ou_want 2 := ⟨aw_in 1067 (by decide +kernel) rfl, aw_in 14 (by decide +kernel) rfl, ⟨by decide, by decide, by decide +kernel⟩, by decide, by decide +kernel⟩
theorem in_Ou_want : Cond.instanceMethod m_Ou_want.1 ∈ aw_T := aw_in 1066 (by decide +kernel) rfl
theorem se_Ou_want : Cond.selects m_Ou_want.1.cls m_Ou_want.1 m_Ou_want.1 ∈ aw_T := aw_inP 41 (by decide +kernel) rfl
theorem d_Ou_search_32 : decode m_Ou_search.2.1 32 = .ok (.ifCond .eq 10, 3) := by decide +kernel
theorem d_Ou_search_42 : decode m_Ou_search.2.1 42 = .ok (.return_, 1) := by decide +kernel
theorem d_Ou_search_35 : decode m_Ou_search.2.1 35 = .ok (.aload_n 0, 1) := by decide +kernel
theorem d_Ou_search_36 : decode m_Ou_search.2.1 36 = .ok (.iconst 0, 1) := by decide +kernel
theorem d_Ou_search_37 : decode m_Ou_search.2.1 37 = .ok (.iload 4, 2) := by decide +kernel
theorem d_Ou_search_39 : decode m_Ou_search.2.1 39 = .ok (.invokevirtual 66, 3) := by decide +kernel
abbrev m_Ou_extend : aw_MI := (⟨"MaypoleGreen$Outlook", "extend", "(II)V"⟩, prog_7_method_7_code, 6, none)
theorem lk_Ou_66 : Cond.methodLink "MaypoleGreen$Outlook" 66 m_Ou_extend.1 ∈ aw_T := aw_in 1072 (by decide +kernel) rfl
theorem k_Ou_extend : aw_K m_Ou_extend 2 := ⟨aw_in 1075 (by decide +kernel) rfl, aw_in 14 (by decide +kernel) rfl, ⟨by decide, by decide, by decide +kernel⟩, by decide, by decide +kernel⟩
theorem in_Ou_extend : Cond.instanceMethod m_Ou_extend.1 ∈ aw_T := aw_in 1074 (by decide +kernel) rfl
theorem se_Ou_extend : Cond.selects m_Ou_extend.1.cls m_Ou_extend.1 m_Ou_extend.1 ∈ aw_T := aw_inP 43 (by decide +kernel) rfl
theorem d_Ou_want_0 : decode m_Ou_want.2.1 0 = .ok (.aload_n 0, 1) := by decide +kernel
theorem d_Ou_want_1 : decode m_Ou_want.2.1 1 = .ok (.getfield 18, 3) := by decide +kernel
theorem f_Ou_18 : aw_F "MaypoleGreen$Outlook" 18 9 5 true := ⟨cR9, cT9, 9, fun k => cY9.getD k .int, rfl, ci9, cy9, cn9, rfl, by decide, aw_in 377 (by decide +kernel) rfl, rfl, rfl, rfl⟩
theorem d_Ou_want_4 : decode m_Ou_want.2.1 4 = .ok (.iconst (-1), 1) := by decide +kernel
theorem d_Ou_want_5 : decode m_Ou_want.2.1 5 = .ok (.invokestatic 30, 3) := by decide +kernel
theorem d_Ou_want_8 : decode m_Ou_want.2.1 8 = .ok (.iconst 0, 1) := by decide +kernel
theorem d_Ou_want_9 : decode m_Ou_want.2.1 9 = .ok (.istore_n 3, 1) := by decide +kernel
theorem d_Ou_want_10 : decode m_Ou_want.2.1 10 = .ok (.iload_n 3, 1) := by decide +kernel
theorem d_Ou_want_11 : decode m_Ou_want.2.1 11 = .ok (.iload_n 2, 1) := by decide +kernel
theorem d_Ou_want_12 : decode m_Ou_want.2.1 12 = .ok (.if_icmp .ge 55, 3) := by decide +kernel
theorem d_Ou_want_67 : decode m_Ou_want.2.1 67 = .ok (.iconst 1, 1) := by decide +kernel
theorem d_Ou_want_68 : decode m_Ou_want.2.1 68 = .ok (.ireturn, 1) := by decide +kernel
theorem d_Ou_want_15 : decode m_Ou_want.2.1 15 = .ok (.aload_n 1, 1) := by decide +kernel
theorem d_Ou_want_16 : decode m_Ou_want.2.1 16 = .ok (.getfield 36, 3) := by decide +kernel
theorem f_Ou_36 : aw_F "MaypoleGreen$Outlook" 36 1 0 true := ⟨cR1, cT1, 4, fun k => cY1.getD k .int, rfl, ci1, cy1, cn1, rfl, by decide, aw_in 38 (by decide +kernel) rfl, rfl, rfl, rfl⟩
theorem d_Ou_want_19 : decode m_Ou_want.2.1 19 = .ok (.iconst 2, 1) := by decide +kernel
theorem d_Ou_want_20 : decode m_Ou_want.2.1 20 = .ok (.iload_n 3, 1) := by decide +kernel
theorem d_Ou_want_21 : decode m_Ou_want.2.1 21 = .ok (.imul, 1) := by decide +kernel
theorem d_Ou_want_22 : decode m_Ou_want.2.1 22 = .ok (.laload, 1) := by decide +kernel
theorem d_Ou_want_23 : decode m_Ou_want.2.1 23 = .ok (.l2i, 1) := by decide +kernel
theorem d_Ou_want_24 : decode m_Ou_want.2.1 24 = .ok (.istore 4, 2) := by decide +kernel
theorem d_Ou_want_26 : decode m_Ou_want.2.1 26 = .ok (.aload_n 1, 1) := by decide +kernel
theorem d_Ou_want_27 : decode m_Ou_want.2.1 27 = .ok (.getfield 36, 3) := by decide +kernel
theorem d_Ou_want_30 : decode m_Ou_want.2.1 30 = .ok (.iconst 2, 1) := by decide +kernel
theorem d_Ou_want_31 : decode m_Ou_want.2.1 31 = .ok (.iload_n 3, 1) := by decide +kernel
theorem d_Ou_want_32 : decode m_Ou_want.2.1 32 = .ok (.imul, 1) := by decide +kernel
theorem d_Ou_want_33 : decode m_Ou_want.2.1 33 = .ok (.iconst 1, 1) := by decide +kernel
theorem d_Ou_want_34 : decode m_Ou_want.2.1 34 = .ok (.iadd, 1) := by decide +kernel
theorem d_Ou_want_35 : decode m_Ou_want.2.1 35 = .ok (.laload, 1) := by decide +kernel
theorem d_Ou_want_36 : decode m_Ou_want.2.1 36 = .ok (.l2i, 1) := by decide +kernel
theorem d_Ou_want_37 : decode m_Ou_want.2.1 37 = .ok (.istore 5, 2) := by decide +kernel
theorem d_Ou_want_39 : decode m_Ou_want.2.1 39 = .ok (.aload_n 0, 1) := by decide +kernel
theorem d_Ou_want_40 : decode m_Ou_want.2.1 40 = .ok (.iload 4, 2) := by decide +kernel
theorem d_Ou_want_42 : decode m_Ou_want.2.1 42 = .ok (.iload 5, 2) := by decide +kernel
theorem d_Ou_want_44 : decode m_Ou_want.2.1 44 = .ok (.invokevirtual 42, 3) := by decide +kernel
abbrev m_Ou_suits : aw_MI := (⟨"MaypoleGreen$Outlook", "suits", "(II)Z"⟩, prog_7_method_6_code, 3, some .boolean)
theorem lk_Ou_42 : Cond.methodLink "MaypoleGreen$Outlook" 42 m_Ou_suits.1 ∈ aw_T := aw_in 1068 (by decide +kernel) rfl
theorem k_Ou_suits : aw_K m_Ou_suits 2 := ⟨aw_in 1071 (by decide +kernel) rfl, aw_in 14 (by decide +kernel) rfl, ⟨by decide, by decide, by decide +kernel⟩, by decide, by decide +kernel⟩
theorem in_Ou_suits : Cond.instanceMethod m_Ou_suits.1 ∈ aw_T := aw_in 1070 (by decide +kernel) rfl
theorem se_Ou_suits : Cond.selects m_Ou_suits.1.cls m_Ou_suits.1 m_Ou_suits.1 ∈ aw_T := aw_inP 42 (by decide +kernel) rfl
theorem d_Ou_want_47 : decode m_Ou_want.2.1 47 = .ok (.ifCond .ne 5, 3) := by decide +kernel
theorem d_Ou_want_52 : decode m_Ou_want.2.1 52 = .ok (.aload_n 0, 1) := by decide +kernel
theorem d_Ou_want_53 : decode m_Ou_want.2.1 53 = .ok (.getfield 18, 3) := by decide +kernel
theorem d_Ou_want_56 : decode m_Ou_want.2.1 56 = .ok (.iload 4, 2) := by decide +kernel
theorem d_Ou_want_58 : decode m_Ou_want.2.1 58 = .ok (.iload 5, 2) := by decide +kernel
theorem d_Ou_want_60 : decode m_Ou_want.2.1 60 = .ok (.iastore, 1) := by decide +kernel
theorem d_Ou_want_61 : decode m_Ou_want.2.1 61 = .ok (.iinc 3 1, 3) := by decide +kernel
theorem d_Ou_want_64 : decode m_Ou_want.2.1 64 = .ok (.goto (-54), 3) := by decide +kernel
theorem d_Ou_want_50 : decode m_Ou_want.2.1 50 = .ok (.iconst 0, 1) := by decide +kernel
theorem d_Ou_want_51 : decode m_Ou_want.2.1 51 = .ok (.ireturn, 1) := by decide +kernel
theorem d_Ou_suits_0 : decode m_Ou_suits.2.1 0 = .ok (.aload_n 0, 1) := by decide +kernel
theorem d_Ou_suits_1 : decode m_Ou_suits.2.1 1 = .ok (.getfield 18, 3) := by decide +kernel
theorem d_Ou_suits_4 : decode m_Ou_suits.2.1 4 = .ok (.iload_n 1, 1) := by decide +kernel
theorem d_Ou_suits_5 : decode m_Ou_suits.2.1 5 = .ok (.iaload, 1) := by decide +kernel
theorem d_Ou_suits_6 : decode m_Ou_suits.2.1 6 = .ok (.iconst (-1), 1) := by decide +kernel
theorem d_Ou_suits_7 : decode m_Ou_suits.2.1 7 = .ok (.if_icmp .eq 13, 3) := by decide +kernel
theorem d_Ou_suits_20 : decode m_Ou_suits.2.1 20 = .ok (.iconst 1, 1) := by decide +kernel
theorem d_Ou_suits_21 : decode m_Ou_suits.2.1 21 = .ok (.goto 4, 3) := by decide +kernel
theorem d_Ou_suits_25 : decode m_Ou_suits.2.1 25 = .ok (.ireturn, 1) := by decide +kernel
theorem d_Ou_suits_10 : decode m_Ou_suits.2.1 10 = .ok (.aload_n 0, 1) := by decide +kernel
theorem d_Ou_suits_11 : decode m_Ou_suits.2.1 11 = .ok (.getfield 18, 3) := by decide +kernel
theorem d_Ou_suits_14 : decode m_Ou_suits.2.1 14 = .ok (.iload_n 1, 1) := by decide +kernel
theorem d_Ou_suits_15 : decode m_Ou_suits.2.1 15 = .ok (.iaload, 1) := by decide +kernel
theorem d_Ou_suits_16 : decode m_Ou_suits.2.1 16 = .ok (.iload_n 2, 1) := by decide +kernel
theorem d_Ou_suits_17 : decode m_Ou_suits.2.1 17 = .ok (.if_icmp .ne 7, 3) := by decide +kernel
theorem d_Ou_suits_24 : decode m_Ou_suits.2.1 24 = .ok (.iconst 0, 1) := by decide +kernel
theorem d_Ou_extend_0 : decode m_Ou_extend.2.1 0 = .ok (.iload_n 2, 1) := by decide +kernel
theorem d_Ou_extend_1 : decode m_Ou_extend.2.1 1 = .ok (.iload_n 1, 1) := by decide +kernel
theorem d_Ou_extend_2 : decode m_Ou_extend.2.1 2 = .ok (.isub, 1) := by decide +kernel
theorem d_Ou_extend_3 : decode m_Ou_extend.2.1 3 = .ok (.istore_n 3, 1) := by decide +kernel
theorem d_Ou_extend_4 : decode m_Ou_extend.2.1 4 = .ok (.aload_n 0, 1) := by decide +kernel
theorem d_Ou_extend_5 : decode m_Ou_extend.2.1 5 = .ok (.getfield 46, 3) := by decide +kernel
theorem d_Ou_extend_8 : decode m_Ou_extend.2.1 8 = .ok (.aload_n 0, 1) := by decide +kernel
theorem d_Ou_extend_9 : decode m_Ou_extend.2.1 9 = .ok (.getfield 21, 3) := by decide +kernel
theorem f_Ou_21 : aw_F "MaypoleGreen$Outlook" 21 9 6 true := ⟨cR9, cT9, 9, fun k => cY9.getD k .int, rfl, ci9, cy9, cn9, rfl, by decide, aw_in 378 (by decide +kernel) rfl, rfl, rfl, rfl⟩
theorem d_Ou_extend_12 : decode m_Ou_extend.2.1 12 = .ok (.invokevirtual 79, 3) := by decide +kernel
theorem lk_Ou_79 : Cond.methodLink "MaypoleGreen$Outlook" 79 m_Gr_fillColours.1 ∈ aw_T := aw_in 1076 (by decide +kernel) rfl
theorem in_Gr_fillColours : Cond.instanceMethod m_Gr_fillColours.1 ∈ aw_T := aw_in 1077 (by decide +kernel) rfl
theorem se_Gr_fillColours : Cond.selects m_Gr_fillColours.1.cls m_Gr_fillColours.1 m_Gr_fillColours.1 ∈ aw_T := aw_in 1078 (by decide +kernel) rfl
theorem d_Ou_extend_15 : decode m_Ou_extend.2.1 15 = .ok (.aload_n 0, 1) := by decide +kernel
theorem d_Ou_extend_16 : decode m_Ou_extend.2.1 16 = .ok (.invokevirtual 83, 3) := by decide +kernel
abbrev m_Ou_wrongGaps : aw_MI := (⟨"MaypoleGreen$Outlook", "wrongGaps", "()I"⟩, prog_7_method_8_code, 3, some .int)
theorem lk_Ou_83 : Cond.methodLink "MaypoleGreen$Outlook" 83 m_Ou_wrongGaps.1 ∈ aw_T := aw_in 1080 (by decide +kernel) rfl
theorem k_Ou_wrongGaps : aw_K m_Ou_wrongGaps 0 := ⟨aw_in 1083 (by decide +kernel) rfl, aw_in 14 (by decide +kernel) rfl, ⟨by decide, by decide, by decide +kernel⟩, by decide, by decide +kernel⟩
theorem in_Ou_wrongGaps : Cond.instanceMethod m_Ou_wrongGaps.1 ∈ aw_T := aw_in 1082 (by decide +kernel) rfl
theorem se_Ou_wrongGaps : Cond.selects m_Ou_wrongGaps.1.cls m_Ou_wrongGaps.1 m_Ou_wrongGaps.1 ∈ aw_T := aw_inP 44 (by decide +kernel) rfl
theorem d_Ou_extend_19 : decode m_Ou_extend.2.1 19 = .ok (.iload_n 3, 1) := by decide +kernel
theorem d_Ou_extend_20 : decode m_Ou_extend.2.1 20 = .ok (.if_icmp .gt 8, 3) := by decide +kernel
theorem d_Ou_extend_28 : decode m_Ou_extend.2.1 28 = .ok (.return_, 1) := by decide +kernel
theorem d_Ou_extend_23 : decode m_Ou_extend.2.1 23 = .ok (.iload_n 1, 1) := by decide +kernel
theorem d_Ou_extend_24 : decode m_Ou_extend.2.1 24 = .ok (.iconst 4, 1) := by decide +kernel
theorem d_Ou_extend_25 : decode m_Ou_extend.2.1 25 = .ok (.if_icmp .le 4, 3) := by decide +kernel
theorem d_Ou_extend_29 : decode m_Ou_extend.2.1 29 = .ok (.iload_n 3, 1) := by decide +kernel
theorem d_Ou_extend_30 : decode m_Ou_extend.2.1 30 = .ok (.iconst 1, 1) := by decide +kernel
theorem d_Ou_extend_31 : decode m_Ou_extend.2.1 31 = .ok (.if_icmp .gt 10, 3) := by decide +kernel
theorem d_Ou_extend_41 : decode m_Ou_extend.2.1 41 = .ok (.iconst 0, 1) := by decide +kernel
theorem d_Ou_extend_42 : decode m_Ou_extend.2.1 42 = .ok (.istore 4, 2) := by decide +kernel
theorem d_Ou_extend_34 : decode m_Ou_extend.2.1 34 = .ok (.aload_n 0, 1) := by decide +kernel
theorem d_Ou_extend_35 : decode m_Ou_extend.2.1 35 = .ok (.iload_n 1, 1) := by decide +kernel
theorem d_Ou_extend_36 : decode m_Ou_extend.2.1 36 = .ok (.iload_n 3, 1) := by decide +kernel
theorem d_Ou_extend_37 : decode m_Ou_extend.2.1 37 = .ok (.invokevirtual 86, 3) := by decide +kernel
abbrev m_Ou_finish : aw_MI := (⟨"MaypoleGreen$Outlook", "finish", "(II)V"⟩, prog_7_method_9_code, 6, none)
theorem lk_Ou_86 : Cond.methodLink "MaypoleGreen$Outlook" 86 m_Ou_finish.1 ∈ aw_T := aw_in 1084 (by decide +kernel) rfl
theorem k_Ou_finish : aw_K m_Ou_finish 2 := ⟨aw_in 1087 (by decide +kernel) rfl, aw_in 14 (by decide +kernel) rfl, ⟨by decide, by decide, by decide +kernel⟩, by decide, by decide +kernel⟩
theorem in_Ou_finish : Cond.instanceMethod m_Ou_finish.1 ∈ aw_T := aw_in 1086 (by decide +kernel) rfl
theorem se_Ou_finish : Cond.selects m_Ou_finish.1.cls m_Ou_finish.1 m_Ou_finish.1 ∈ aw_T := aw_inP 45 (by decide +kernel) rfl
theorem d_Ou_extend_40 : decode m_Ou_extend.2.1 40 = .ok (.return_, 1) := by decide +kernel
theorem d_Ou_extend_44 : decode m_Ou_extend.2.1 44 = .ok (.iload 4, 2) := by decide +kernel
theorem d_Ou_extend_46 : decode m_Ou_extend.2.1 46 = .ok (.iconst 2, 1) := by decide +kernel
theorem d_Ou_extend_47 : decode m_Ou_extend.2.1 47 = .ok (.aload_n 0, 1) := by decide +kernel
theorem d_Ou_extend_48 : decode m_Ou_extend.2.1 48 = .ok (.getfield 56, 3) := by decide +kernel
theorem d_Ou_extend_51 : decode m_Ou_extend.2.1 51 = .ok (.imul, 1) := by decide +kernel
theorem d_Ou_extend_52 : decode m_Ou_extend.2.1 52 = .ok (.if_icmp .ge 51, 3) := by decide +kernel
theorem d_Ou_extend_103 : decode m_Ou_extend.2.1 103 = .ok (.return_, 1) := by decide +kernel
theorem d_Ou_extend_55 : decode m_Ou_extend.2.1 55 = .ok (.aload_n 0, 1) := by decide +kernel
theorem d_Ou_extend_56 : decode m_Ou_extend.2.1 56 = .ok (.getfield 46, 3) := by decide +kernel
theorem d_Ou_extend_59 : decode m_Ou_extend.2.1 59 = .ok (.iload 4, 2) := by decide +kernel
theorem d_Ou_extend_61 : decode m_Ou_extend.2.1 61 = .ok (.invokevirtual 89, 3) := by decide +kernel
theorem lk_Ou_89 : Cond.methodLink "MaypoleGreen$Outlook" 89 m_Gr_makePass.1 ∈ aw_T := aw_in 1101 (by decide +kernel) rfl
theorem d_Ou_extend_64 : decode m_Ou_extend.2.1 64 = .ok (.istore 5, 2) := by decide +kernel
theorem d_Ou_extend_66 : decode m_Ou_extend.2.1 66 = .ok (.iload 5, 2) := by decide +kernel
theorem d_Ou_extend_68 : decode m_Ou_extend.2.1 68 = .ok (.iconst (-1), 1) := by decide +kernel
theorem d_Ou_extend_69 : decode m_Ou_extend.2.1 69 = .ok (.if_icmp .eq 28, 3) := by decide +kernel
theorem d_Ou_extend_97 : decode m_Ou_extend.2.1 97 = .ok (.iinc 4 1, 3) := by decide +kernel
theorem d_Ou_extend_100 : decode m_Ou_extend.2.1 100 = .ok (.goto (-56), 3) := by decide +kernel
theorem d_Ou_extend_72 : decode m_Ou_extend.2.1 72 = .ok (.aload_n 0, 1) := by decide +kernel
theorem d_Ou_extend_73 : decode m_Ou_extend.2.1 73 = .ok (.getfield 15, 3) := by decide +kernel
theorem f_Ou_15 : aw_F "MaypoleGreen$Outlook" 15 9 4 true := ⟨cR9, cT9, 9, fun k => cY9.getD k .int, rfl, ci9, cy9, cn9, rfl, by decide, aw_in 376 (by decide +kernel) rfl, rfl, rfl, rfl⟩
theorem d_Ou_extend_76 : decode m_Ou_extend.2.1 76 = .ok (.iload_n 1, 1) := by decide +kernel
theorem d_Ou_extend_77 : decode m_Ou_extend.2.1 77 = .ok (.iload 4, 2) := by decide +kernel
theorem d_Ou_extend_79 : decode m_Ou_extend.2.1 79 = .ok (.iastore, 1) := by decide +kernel
theorem d_Ou_extend_80 : decode m_Ou_extend.2.1 80 = .ok (.aload_n 0, 1) := by decide +kernel
theorem d_Ou_extend_81 : decode m_Ou_extend.2.1 81 = .ok (.iload_n 1, 1) := by decide +kernel
theorem d_Ou_extend_82 : decode m_Ou_extend.2.1 82 = .ok (.iconst 1, 1) := by decide +kernel
theorem d_Ou_extend_83 : decode m_Ou_extend.2.1 83 = .ok (.iadd, 1) := by decide +kernel
theorem d_Ou_extend_84 : decode m_Ou_extend.2.1 84 = .ok (.iload_n 2, 1) := by decide +kernel
theorem d_Ou_extend_85 : decode m_Ou_extend.2.1 85 = .ok (.invokevirtual 66, 3) := by decide +kernel
theorem d_Ou_extend_88 : decode m_Ou_extend.2.1 88 = .ok (.aload_n 0, 1) := by decide +kernel
theorem d_Ou_extend_89 : decode m_Ou_extend.2.1 89 = .ok (.getfield 46, 3) := by decide +kernel
theorem d_Ou_extend_92 : decode m_Ou_extend.2.1 92 = .ok (.iload 5, 2) := by decide +kernel
theorem d_Ou_extend_94 : decode m_Ou_extend.2.1 94 = .ok (.invokevirtual 93, 3) := by decide +kernel
theorem lk_Ou_93 : Cond.methodLink "MaypoleGreen$Outlook" 93 m_Gr_takeBack.1 ∈ aw_T := aw_in 1102 (by decide +kernel) rfl
theorem in_Gr_takeBack : Cond.instanceMethod m_Gr_takeBack.1 ∈ aw_T := aw_in 1103 (by decide +kernel) rfl
theorem se_Gr_takeBack : Cond.selects m_Gr_takeBack.1.cls m_Gr_takeBack.1 m_Gr_takeBack.1 ∈ aw_T := aw_in 1104 (by decide +kernel) rfl
theorem d_Ou_wrongGaps_0 : decode m_Ou_wrongGaps.2.1 0 = .ok (.iconst 0, 1) := by decide +kernel
theorem d_Ou_wrongGaps_1 : decode m_Ou_wrongGaps.2.1 1 = .ok (.istore_n 1, 1) := by decide +kernel
theorem d_Ou_wrongGaps_2 : decode m_Ou_wrongGaps.2.1 2 = .ok (.iconst 0, 1) := by decide +kernel
theorem d_Ou_wrongGaps_3 : decode m_Ou_wrongGaps.2.1 3 = .ok (.istore_n 2, 1) := by decide +kernel
theorem d_Ou_wrongGaps_4 : decode m_Ou_wrongGaps.2.1 4 = .ok (.iload_n 2, 1) := by decide +kernel
theorem d_Ou_wrongGaps_5 : decode m_Ou_wrongGaps.2.1 5 = .ok (.aload_n 0, 1) := by decide +kernel
theorem d_Ou_wrongGaps_6 : decode m_Ou_wrongGaps.2.1 6 = .ok (.getfield 56, 3) := by decide +kernel
theorem d_Ou_wrongGaps_9 : decode m_Ou_wrongGaps.2.1 9 = .ok (.if_icmp .ge 26, 3) := by decide +kernel
theorem d_Ou_wrongGaps_35 : decode m_Ou_wrongGaps.2.1 35 = .ok (.iload_n 1, 1) := by decide +kernel
theorem d_Ou_wrongGaps_36 : decode m_Ou_wrongGaps.2.1 36 = .ok (.ireturn, 1) := by decide +kernel
theorem d_Ou_wrongGaps_12 : decode m_Ou_wrongGaps.2.1 12 = .ok (.aload_n 0, 1) := by decide +kernel
theorem d_Ou_wrongGaps_13 : decode m_Ou_wrongGaps.2.1 13 = .ok (.iload_n 2, 1) := by decide +kernel
theorem d_Ou_wrongGaps_14 : decode m_Ou_wrongGaps.2.1 14 = .ok (.aload_n 0, 1) := by decide +kernel
theorem d_Ou_wrongGaps_15 : decode m_Ou_wrongGaps.2.1 15 = .ok (.getfield 21, 3) := by decide +kernel
theorem d_Ou_wrongGaps_18 : decode m_Ou_wrongGaps.2.1 18 = .ok (.iload_n 2, 1) := by decide +kernel
theorem d_Ou_wrongGaps_19 : decode m_Ou_wrongGaps.2.1 19 = .ok (.iaload, 1) := by decide +kernel
theorem d_Ou_wrongGaps_20 : decode m_Ou_wrongGaps.2.1 20 = .ok (.invokevirtual 42, 3) := by decide +kernel
theorem d_Ou_wrongGaps_23 : decode m_Ou_wrongGaps.2.1 23 = .ok (.ifCond .ne 6, 3) := by decide +kernel
theorem d_Ou_wrongGaps_29 : decode m_Ou_wrongGaps.2.1 29 = .ok (.iinc 2 1, 3) := by decide +kernel
theorem d_Ou_wrongGaps_32 : decode m_Ou_wrongGaps.2.1 32 = .ok (.goto (-28), 3) := by decide +kernel
theorem d_Ou_wrongGaps_26 : decode m_Ou_wrongGaps.2.1 26 = .ok (.iinc 1 1, 3) := by decide +kernel
theorem d_Ou_finish_0 : decode m_Ou_finish.2.1 0 = .ok (.aload_n 0, 1) := by decide +kernel
theorem d_Ou_finish_1 : decode m_Ou_finish.2.1 1 = .ok (.getfield 24, 3) := by decide +kernel
theorem f_Ou_24 : aw_F "MaypoleGreen$Outlook" 24 9 7 true := ⟨cR9, cT9, 9, fun k => cY9.getD k .int, rfl, ci9, cy9, cn9, rfl, by decide, aw_in 379 (by decide +kernel) rfl, rfl, rfl, rfl⟩
theorem d_Ou_finish_4 : decode m_Ou_finish.2.1 4 = .ok (.iconst 0, 1) := by decide +kernel
theorem d_Ou_finish_5 : decode m_Ou_finish.2.1 5 = .ok (.invokestatic 30, 3) := by decide +kernel
theorem d_Ou_finish_8 : decode m_Ou_finish.2.1 8 = .ok (.aload_n 0, 1) := by decide +kernel
theorem d_Ou_finish_9 : decode m_Ou_finish.2.1 9 = .ok (.getfield 59, 3) := by decide +kernel
theorem d_Ou_finish_12 : decode m_Ou_finish.2.1 12 = .ok (.istore_n 3, 1) := by decide +kernel
theorem d_Ou_finish_13 : decode m_Ou_finish.2.1 13 = .ok (.iload_n 2, 1) := by decide +kernel
theorem d_Ou_finish_14 : decode m_Ou_finish.2.1 14 = .ok (.ifCond .ne 16, 3) := by decide +kernel
theorem d_Ou_finish_30 : decode m_Ou_finish.2.1 30 = .ok (.aload_n 0, 1) := by decide +kernel
theorem d_Ou_finish_31 : decode m_Ou_finish.2.1 31 = .ok (.invokevirtual 83, 3) := by decide +kernel
theorem d_Ou_finish_34 : decode m_Ou_finish.2.1 34 = .ok (.ifCond .ne 7, 3) := by decide +kernel
theorem d_Ou_finish_41 : decode m_Ou_finish.2.1 41 = .ok (.iconst 0, 1) := by decide +kernel
theorem d_Ou_finish_42 : decode m_Ou_finish.2.1 42 = .ok (.istore 4, 2) := by decide +kernel
theorem d_Ou_finish_44 : decode m_Ou_finish.2.1 44 = .ok (.iconst 0, 1) := by decide +kernel
theorem d_Ou_finish_45 : decode m_Ou_finish.2.1 45 = .ok (.istore 5, 2) := by decide +kernel
theorem d_Ou_finish_37 : decode m_Ou_finish.2.1 37 = .ok (.iconst 1, 1) := by decide +kernel
theorem d_Ou_finish_38 : decode m_Ou_finish.2.1 38 = .ok (.goto 4, 3) := by decide +kernel
theorem d_Ou_finish_17 : decode m_Ou_finish.2.1 17 = .ok (.aload_n 0, 1) := by decide +kernel
theorem d_Ou_finish_18 : decode m_Ou_finish.2.1 18 = .ok (.dup, 1) := by decide +kernel
theorem d_Ou_finish_19 : decode m_Ou_finish.2.1 19 = .ok (.getfield 59, 3) := by decide +kernel
theorem d_Ou_finish_22 : decode m_Ou_finish.2.1 22 = .ok (.iconst 1, 1) := by decide +kernel
theorem d_Ou_finish_23 : decode m_Ou_finish.2.1 23 = .ok (.iadd, 1) := by decide +kernel
theorem d_Ou_finish_24 : decode m_Ou_finish.2.1 24 = .ok (.putfield 59, 3) := by decide +kernel
theorem d_Ou_finish_27 : decode m_Ou_finish.2.1 27 = .ok (.goto 69, 3) := by decide +kernel
theorem d_Ou_finish_96 : decode m_Ou_finish.2.1 96 = .ok (.iconst 0, 1) := by decide +kernel
theorem d_Ou_finish_97 : decode m_Ou_finish.2.1 97 = .ok (.istore 4, 2) := by decide +kernel
theorem d_Ou_finish_47 : decode m_Ou_finish.2.1 47 = .ok (.iload 5, 2) := by decide +kernel
theorem d_Ou_finish_49 : decode m_Ou_finish.2.1 49 = .ok (.iconst 2, 1) := by decide +kernel
theorem d_Ou_finish_50 : decode m_Ou_finish.2.1 50 = .ok (.aload_n 0, 1) := by decide +kernel
theorem d_Ou_finish_51 : decode m_Ou_finish.2.1 51 = .ok (.getfield 56, 3) := by decide +kernel
theorem d_Ou_finish_54 : decode m_Ou_finish.2.1 54 = .ok (.imul, 1) := by decide +kernel
theorem d_Ou_finish_55 : decode m_Ou_finish.2.1 55 = .ok (.if_icmp .ge 41, 3) := by decide +kernel
theorem d_Ou_finish_58 : decode m_Ou_finish.2.1 58 = .ok (.iload 4, 2) := by decide +kernel
theorem d_Ou_finish_60 : decode m_Ou_finish.2.1 60 = .ok (.ifCond .ne 23, 3) := by decide +kernel
theorem d_Ou_finish_83 : decode m_Ou_finish.2.1 83 = .ok (.aload_n 0, 1) := by decide +kernel
theorem d_Ou_finish_84 : decode m_Ou_finish.2.1 84 = .ok (.iload_n 1, 1) := by decide +kernel
theorem d_Ou_finish_85 : decode m_Ou_finish.2.1 85 = .ok (.iload 5, 2) := by decide +kernel
theorem d_Ou_finish_87 : decode m_Ou_finish.2.1 87 = .ok (.invokevirtual 97, 3) := by decide +kernel
abbrev m_Ou_lastPass : aw_MI := (⟨"MaypoleGreen$Outlook", "lastPass", "(II)V"⟩, prog_7_method_10_code, 5, none)
theorem lk_Ou_97 : Cond.methodLink "MaypoleGreen$Outlook" 97 m_Ou_lastPass.1 ∈ aw_T := aw_in 1088 (by decide +kernel) rfl
theorem k_Ou_lastPass : aw_K m_Ou_lastPass 2 := ⟨aw_in 1091 (by decide +kernel) rfl, aw_in 14 (by decide +kernel) rfl, ⟨by decide, by decide, by decide +kernel⟩, by decide, by decide +kernel⟩
theorem in_Ou_lastPass : Cond.instanceMethod m_Ou_lastPass.1 ∈ aw_T := aw_in 1090 (by decide +kernel) rfl
theorem se_Ou_lastPass : Cond.selects m_Ou_lastPass.1.cls m_Ou_lastPass.1 m_Ou_lastPass.1 ∈ aw_T := aw_inP 46 (by decide +kernel) rfl
theorem d_Ou_finish_90 : decode m_Ou_finish.2.1 90 = .ok (.iinc 5 1, 3) := by decide +kernel
theorem d_Ou_finish_93 : decode m_Ou_finish.2.1 93 = .ok (.goto (-46), 3) := by decide +kernel
theorem d_Ou_finish_63 : decode m_Ou_finish.2.1 63 = .ok (.aload_n 0, 1) := by decide +kernel
theorem d_Ou_finish_64 : decode m_Ou_finish.2.1 64 = .ok (.iload 5, 2) := by decide +kernel
theorem d_Ou_finish_66 : decode m_Ou_finish.2.1 66 = .ok (.iconst 1, 1) := by decide +kernel
theorem d_Ou_finish_67 : decode m_Ou_finish.2.1 67 = .ok (.ishr, 1) := by decide +kernel
theorem d_Ou_finish_68 : decode m_Ou_finish.2.1 68 = .ok (.aload_n 0, 1) := by decide +kernel
theorem d_Ou_finish_69 : decode m_Ou_finish.2.1 69 = .ok (.getfield 21, 3) := by decide +kernel
theorem d_Ou_finish_72 : decode m_Ou_finish.2.1 72 = .ok (.iload 5, 2) := by decide +kernel
theorem d_Ou_finish_74 : decode m_Ou_finish.2.1 74 = .ok (.iconst 1, 1) := by decide +kernel
theorem d_Ou_finish_75 : decode m_Ou_finish.2.1 75 = .ok (.ishr, 1) := by decide +kernel
theorem d_Ou_finish_76 : decode m_Ou_finish.2.1 76 = .ok (.iaload, 1) := by decide +kernel
theorem d_Ou_finish_77 : decode m_Ou_finish.2.1 77 = .ok (.invokevirtual 42, 3) := by decide +kernel
theorem d_Ou_finish_80 : decode m_Ou_finish.2.1 80 = .ok (.ifCond .ne 10, 3) := by decide +kernel
theorem d_Ou_finish_99 : decode m_Ou_finish.2.1 99 = .ok (.iload 4, 2) := by decide +kernel
theorem d_Ou_finish_101 : decode m_Ou_finish.2.1 101 = .ok (.aload_n 0, 1) := by decide +kernel
theorem d_Ou_finish_102 : decode m_Ou_finish.2.1 102 = .ok (.getfield 56, 3) := by decide +kernel
theorem d_Ou_finish_105 : decode m_Ou_finish.2.1 105 = .ok (.if_icmp .ge 43, 3) := by decide +kernel
theorem d_Ou_finish_148 : decode m_Ou_finish.2.1 148 = .ok (.return_, 1) := by decide +kernel
theorem d_Ou_finish_108 : decode m_Ou_finish.2.1 108 = .ok (.aload_n 0, 1) := by decide +kernel
theorem d_Ou_finish_109 : decode m_Ou_finish.2.1 109 = .ok (.getfield 27, 3) := by decide +kernel
theorem d_Ou_finish_112 : decode m_Ou_finish.2.1 112 = .ok (.iload 4, 2) := by decide +kernel
theorem d_Ou_finish_114 : decode m_Ou_finish.2.1 114 = .ok (.aload_n 0, 1) := by decide +kernel
theorem d_Ou_finish_115 : decode m_Ou_finish.2.1 115 = .ok (.getfield 21, 3) := by decide +kernel
theorem d_Ou_finish_118 : decode m_Ou_finish.2.1 118 = .ok (.iload 4, 2) := by decide +kernel
theorem d_Ou_finish_120 : decode m_Ou_finish.2.1 120 = .ok (.iaload, 1) := by decide +kernel
theorem d_Ou_finish_121 : decode m_Ou_finish.2.1 121 = .ok (.invokestatic 70, 3) := by decide +kernel
abbrev m_Ou_cell : aw_MI := (⟨"MaypoleGreen$Outlook", "cell", "(II)I"⟩, prog_7_method_5_code, 2, some .int)
theorem lk_Ou_70 : Cond.methodLink "MaypoleGreen$Outlook" 70 m_Ou_cell.1 ∈ aw_T := aw_in 1098 (by decide +kernel) rfl
theorem k_Ou_cell : aw_K m_Ou_cell 2 := ⟨aw_in 1100 (by decide +kernel) rfl, aw_in 14 (by decide +kernel) rfl, ⟨by decide, by decide, by decide +kernel⟩, by decide, by decide +kernel⟩
theorem st_Ou_cell : Cond.static m_Ou_cell.1 ∈ aw_T := aw_in 1099 (by decide +kernel) rfl
theorem d_Ou_finish_124 : decode m_Ou_finish.2.1 124 = .ok (.dup2, 1) := by decide +kernel
theorem d_Ou_finish_125 : decode m_Ou_finish.2.1 125 = .ok (.iaload, 1) := by decide +kernel
theorem d_Ou_finish_126 : decode m_Ou_finish.2.1 126 = .ok (.aload_n 0, 1) := by decide +kernel
theorem d_Ou_finish_127 : decode m_Ou_finish.2.1 127 = .ok (.getfield 59, 3) := by decide +kernel
theorem d_Ou_finish_130 : decode m_Ou_finish.2.1 130 = .ok (.iload_n 3, 1) := by decide +kernel
theorem d_Ou_finish_131 : decode m_Ou_finish.2.1 131 = .ok (.isub, 1) := by decide +kernel
theorem d_Ou_finish_132 : decode m_Ou_finish.2.1 132 = .ok (.aload_n 0, 1) := by decide +kernel
theorem d_Ou_finish_133 : decode m_Ou_finish.2.1 133 = .ok (.getfield 24, 3) := by decide +kernel
theorem d_Ou_finish_136 : decode m_Ou_finish.2.1 136 = .ok (.iload 4, 2) := by decide +kernel
theorem d_Ou_finish_138 : decode m_Ou_finish.2.1 138 = .ok (.iaload, 1) := by decide +kernel
theorem d_Ou_finish_139 : decode m_Ou_finish.2.1 139 = .ok (.isub, 1) := by decide +kernel
theorem d_Ou_finish_140 : decode m_Ou_finish.2.1 140 = .ok (.iadd, 1) := by decide +kernel
theorem d_Ou_finish_141 : decode m_Ou_finish.2.1 141 = .ok (.iastore, 1) := by decide +kernel
theorem d_Ou_finish_142 : decode m_Ou_finish.2.1 142 = .ok (.iinc 4 1, 3) := by decide +kernel
theorem d_Ou_finish_145 : decode m_Ou_finish.2.1 145 = .ok (.goto (-46), 3) := by decide +kernel
theorem d_Ou_lastPass_0 : decode m_Ou_lastPass.2.1 0 = .ok (.iload_n 2, 1) := by decide +kernel
theorem d_Ou_lastPass_1 : decode m_Ou_lastPass.2.1 1 = .ok (.iconst 1, 1) := by decide +kernel
theorem d_Ou_lastPass_2 : decode m_Ou_lastPass.2.1 2 = .ok (.ishr, 1) := by decide +kernel
theorem d_Ou_lastPass_3 : decode m_Ou_lastPass.2.1 3 = .ok (.istore_n 3, 1) := by decide +kernel
theorem d_Ou_lastPass_4 : decode m_Ou_lastPass.2.1 4 = .ok (.aload_n 0, 1) := by decide +kernel
theorem d_Ou_lastPass_5 : decode m_Ou_lastPass.2.1 5 = .ok (.getfield 46, 3) := by decide +kernel
theorem d_Ou_lastPass_8 : decode m_Ou_lastPass.2.1 8 = .ok (.iload_n 3, 1) := by decide +kernel
theorem d_Ou_lastPass_9 : decode m_Ou_lastPass.2.1 9 = .ok (.iload_n 2, 1) := by decide +kernel
theorem d_Ou_lastPass_10 : decode m_Ou_lastPass.2.1 10 = .ok (.iconst 1, 1) := by decide +kernel
theorem d_Ou_lastPass_11 : decode m_Ou_lastPass.2.1 11 = .ok (.iand, 1) := by decide +kernel
theorem d_Ou_lastPass_12 : decode m_Ou_lastPass.2.1 12 = .ok (.invokevirtual 100, 3) := by decide +kernel
theorem lk_Ou_100 : Cond.methodLink "MaypoleGreen$Outlook" 100 m_Gr_colourBehind.1 ∈ aw_T := aw_in 1092 (by decide +kernel) rfl
theorem in_Gr_colourBehind : Cond.instanceMethod m_Gr_colourBehind.1 ∈ aw_T := aw_in 1093 (by decide +kernel) rfl
theorem se_Gr_colourBehind : Cond.selects m_Gr_colourBehind.1.cls m_Gr_colourBehind.1 m_Gr_colourBehind.1 ∈ aw_T := aw_in 1094 (by decide +kernel) rfl
theorem d_Ou_lastPass_15 : decode m_Ou_lastPass.2.1 15 = .ok (.istore 4, 2) := by decide +kernel
theorem d_Ou_lastPass_17 : decode m_Ou_lastPass.2.1 17 = .ok (.iload 4, 2) := by decide +kernel
theorem d_Ou_lastPass_19 : decode m_Ou_lastPass.2.1 19 = .ok (.iconst (-1), 1) := by decide +kernel
theorem d_Ou_lastPass_20 : decode m_Ou_lastPass.2.1 20 = .ok (.if_icmp .eq 13, 3) := by decide +kernel
theorem d_Ou_lastPass_33 : decode m_Ou_lastPass.2.1 33 = .ok (.return_, 1) := by decide +kernel
theorem d_Ou_lastPass_23 : decode m_Ou_lastPass.2.1 23 = .ok (.aload_n 0, 1) := by decide +kernel
theorem d_Ou_lastPass_24 : decode m_Ou_lastPass.2.1 24 = .ok (.iload_n 3, 1) := by decide +kernel
theorem d_Ou_lastPass_25 : decode m_Ou_lastPass.2.1 25 = .ok (.iload 4, 2) := by decide +kernel
theorem d_Ou_lastPass_27 : decode m_Ou_lastPass.2.1 27 = .ok (.invokevirtual 42, 3) := by decide +kernel
theorem d_Ou_lastPass_30 : decode m_Ou_lastPass.2.1 30 = .ok (.ifCond .ne 4, 3) := by decide +kernel
theorem d_Ou_lastPass_34 : decode m_Ou_lastPass.2.1 34 = .ok (.aload_n 0, 1) := by decide +kernel
theorem d_Ou_lastPass_35 : decode m_Ou_lastPass.2.1 35 = .ok (.getfield 59, 3) := by decide +kernel
theorem d_Ou_lastPass_38 : decode m_Ou_lastPass.2.1 38 = .ok (.ifCond .ne 24, 3) := by decide +kernel
theorem d_Ou_lastPass_62 : decode m_Ou_lastPass.2.1 62 = .ok (.aload_n 0, 1) := by decide +kernel
theorem d_Ou_lastPass_63 : decode m_Ou_lastPass.2.1 63 = .ok (.dup, 1) := by decide +kernel
theorem d_Ou_lastPass_64 : decode m_Ou_lastPass.2.1 64 = .ok (.getfield 59, 3) := by decide +kernel
theorem d_Ou_lastPass_67 : decode m_Ou_lastPass.2.1 67 = .ok (.iconst 1, 1) := by decide +kernel
theorem d_Ou_lastPass_68 : decode m_Ou_lastPass.2.1 68 = .ok (.iadd, 1) := by decide +kernel
theorem d_Ou_lastPass_69 : decode m_Ou_lastPass.2.1 69 = .ok (.putfield 59, 3) := by decide +kernel
theorem d_Ou_lastPass_72 : decode m_Ou_lastPass.2.1 72 = .ok (.aload_n 0, 1) := by decide +kernel
theorem d_Ou_lastPass_73 : decode m_Ou_lastPass.2.1 73 = .ok (.getfield 24, 3) := by decide +kernel
theorem d_Ou_lastPass_76 : decode m_Ou_lastPass.2.1 76 = .ok (.iload_n 3, 1) := by decide +kernel
theorem d_Ou_lastPass_77 : decode m_Ou_lastPass.2.1 77 = .ok (.dup2, 1) := by decide +kernel
theorem d_Ou_lastPass_78 : decode m_Ou_lastPass.2.1 78 = .ok (.iaload, 1) := by decide +kernel
theorem d_Ou_lastPass_79 : decode m_Ou_lastPass.2.1 79 = .ok (.iconst 1, 1) := by decide +kernel
theorem d_Ou_lastPass_80 : decode m_Ou_lastPass.2.1 80 = .ok (.iadd, 1) := by decide +kernel
theorem d_Ou_lastPass_81 : decode m_Ou_lastPass.2.1 81 = .ok (.iastore, 1) := by decide +kernel
theorem d_Ou_lastPass_82 : decode m_Ou_lastPass.2.1 82 = .ok (.aload_n 0, 1) := by decide +kernel
theorem d_Ou_lastPass_83 : decode m_Ou_lastPass.2.1 83 = .ok (.getfield 27, 3) := by decide +kernel
theorem d_Ou_lastPass_86 : decode m_Ou_lastPass.2.1 86 = .ok (.iload_n 3, 1) := by decide +kernel
theorem d_Ou_lastPass_87 : decode m_Ou_lastPass.2.1 87 = .ok (.iload 4, 2) := by decide +kernel
theorem d_Ou_lastPass_89 : decode m_Ou_lastPass.2.1 89 = .ok (.invokestatic 70, 3) := by decide +kernel
theorem d_Ou_lastPass_92 : decode m_Ou_lastPass.2.1 92 = .ok (.dup2, 1) := by decide +kernel
theorem d_Ou_lastPass_93 : decode m_Ou_lastPass.2.1 93 = .ok (.iaload, 1) := by decide +kernel
theorem d_Ou_lastPass_94 : decode m_Ou_lastPass.2.1 94 = .ok (.iconst 1, 1) := by decide +kernel
theorem d_Ou_lastPass_95 : decode m_Ou_lastPass.2.1 95 = .ok (.iadd, 1) := by decide +kernel
theorem d_Ou_lastPass_96 : decode m_Ou_lastPass.2.1 96 = .ok (.iastore, 1) := by decide +kernel
theorem d_Ou_lastPass_97 : decode m_Ou_lastPass.2.1 97 = .ok (.return_, 1) := by decide +kernel
theorem d_Ou_lastPass_41 : decode m_Ou_lastPass.2.1 41 = .ok (.aload_n 0, 1) := by decide +kernel
theorem d_Ou_lastPass_42 : decode m_Ou_lastPass.2.1 42 = .ok (.getfield 15, 3) := by decide +kernel
theorem d_Ou_lastPass_45 : decode m_Ou_lastPass.2.1 45 = .ok (.iload_n 1, 1) := by decide +kernel
theorem d_Ou_lastPass_46 : decode m_Ou_lastPass.2.1 46 = .ok (.iload_n 2, 1) := by decide +kernel
theorem d_Ou_lastPass_47 : decode m_Ou_lastPass.2.1 47 = .ok (.iastore, 1) := by decide +kernel
theorem d_Ou_lastPass_48 : decode m_Ou_lastPass.2.1 48 = .ok (.aload_n 0, 1) := by decide +kernel
theorem d_Ou_lastPass_49 : decode m_Ou_lastPass.2.1 49 = .ok (.getfield 15, 3) := by decide +kernel
theorem d_Ou_lastPass_52 : decode m_Ou_lastPass.2.1 52 = .ok (.iconst 0, 1) := by decide +kernel
theorem d_Ou_lastPass_53 : decode m_Ou_lastPass.2.1 53 = .ok (.aload_n 0, 1) := by decide +kernel
theorem d_Ou_lastPass_54 : decode m_Ou_lastPass.2.1 54 = .ok (.getfield 9, 3) := by decide +kernel
theorem f_Ou_9 : aw_F "MaypoleGreen$Outlook" 9 9 1 true := ⟨cR9, cT9, 9, fun k => cY9.getD k .int, rfl, ci9, cy9, cn9, rfl, by decide, aw_in 372 (by decide +kernel) rfl, rfl, rfl, rfl⟩
theorem d_Ou_lastPass_57 : decode m_Ou_lastPass.2.1 57 = .ok (.iconst 0, 1) := by decide +kernel
theorem d_Ou_lastPass_58 : decode m_Ou_lastPass.2.1 58 = .ok (.iconst 4, 1) := by decide +kernel
theorem d_Ou_lastPass_59 : decode m_Ou_lastPass.2.1 59 = .ok (.invokestatic 103, 3) := by decide +kernel
theorem ck_Ou_103 : Cond.methodLink "MaypoleGreen$Outlook" 103 arraycopyName ∈ aw_T := aw_in 1097 (by decide +kernel) rfl
theorem d_Ou_cell_0 : decode m_Ou_cell.2.1 0 = .ok (.iload_n 0, 1) := by decide +kernel
theorem d_Ou_cell_1 : decode m_Ou_cell.2.1 1 = .ok (.bipush 7, 2) := by decide +kernel
theorem d_Ou_cell_3 : decode m_Ou_cell.2.1 3 = .ok (.imul, 1) := by decide +kernel
theorem d_Ou_cell_4 : decode m_Ou_cell.2.1 4 = .ok (.iload_n 1, 1) := by decide +kernel
theorem d_Ou_cell_5 : decode m_Ou_cell.2.1 5 = .ok (.iadd, 1) := by decide +kernel
theorem d_Ou_cell_6 : decode m_Ou_cell.2.1 6 = .ok (.ireturn, 1) := by decide +kernel
abbrev m_Ou_partingGap : aw_MI := (⟨"MaypoleGreen$Outlook", "partingGap", "()I"⟩, prog_7_method_4_code, 6, some .int)
theorem k_Ou_partingGap : aw_K m_Ou_partingGap 0 := ⟨aw_in 1117 (by decide +kernel) rfl, aw_in 14 (by decide +kernel) rfl, ⟨by decide, by decide, by decide +kernel⟩, by decide, by decide +kernel⟩
theorem d_Ou_partingGap_0 : decode m_Ou_partingGap.2.1 0 = .ok (.iconst (-1), 1) := by decide +kernel
theorem d_Ou_partingGap_1 : decode m_Ou_partingGap.2.1 1 = .ok (.istore_n 1, 1) := by decide +kernel
theorem d_Ou_partingGap_2 : decode m_Ou_partingGap.2.1 2 = .ok (.aload_n 0, 1) := by decide +kernel
theorem d_Ou_partingGap_3 : decode m_Ou_partingGap.2.1 3 = .ok (.getfield 59, 3) := by decide +kernel
theorem d_Ou_partingGap_6 : decode m_Ou_partingGap.2.1 6 = .ok (.istore_n 2, 1) := by decide +kernel
theorem d_Ou_partingGap_7 : decode m_Ou_partingGap.2.1 7 = .ok (.iconst 0, 1) := by decide +kernel
theorem d_Ou_partingGap_8 : decode m_Ou_partingGap.2.1 8 = .ok (.istore_n 3, 1) := by decide +kernel
theorem d_Ou_partingGap_9 : decode m_Ou_partingGap.2.1 9 = .ok (.iload_n 3, 1) := by decide +kernel
theorem d_Ou_partingGap_10 : decode m_Ou_partingGap.2.1 10 = .ok (.aload_n 0, 1) := by decide +kernel
theorem d_Ou_partingGap_11 : decode m_Ou_partingGap.2.1 11 = .ok (.getfield 56, 3) := by decide +kernel
theorem d_Ou_partingGap_14 : decode m_Ou_partingGap.2.1 14 = .ok (.if_icmp .ge 57, 3) := by decide +kernel
theorem d_Ou_partingGap_71 : decode m_Ou_partingGap.2.1 71 = .ok (.iload_n 1, 1) := by decide +kernel
theorem d_Ou_partingGap_72 : decode m_Ou_partingGap.2.1 72 = .ok (.ireturn, 1) := by decide +kernel
theorem d_Ou_partingGap_17 : decode m_Ou_partingGap.2.1 17 = .ok (.iconst 0, 1) := by decide +kernel
theorem d_Ou_partingGap_18 : decode m_Ou_partingGap.2.1 18 = .ok (.istore 4, 2) := by decide +kernel
theorem d_Ou_partingGap_20 : decode m_Ou_partingGap.2.1 20 = .ok (.iconst 0, 1) := by decide +kernel
theorem d_Ou_partingGap_21 : decode m_Ou_partingGap.2.1 21 = .ok (.istore 5, 2) := by decide +kernel
theorem d_Ou_partingGap_23 : decode m_Ou_partingGap.2.1 23 = .ok (.iload 5, 2) := by decide +kernel
theorem d_Ou_partingGap_25 : decode m_Ou_partingGap.2.1 25 = .ok (.bipush 6, 2) := by decide +kernel
theorem d_Ou_partingGap_27 : decode m_Ou_partingGap.2.1 27 = .ok (.if_icmp .gt 27, 3) := by decide +kernel
theorem d_Ou_partingGap_54 : decode m_Ou_partingGap.2.1 54 = .ok (.iload 4, 2) := by decide +kernel
theorem d_Ou_partingGap_56 : decode m_Ou_partingGap.2.1 56 = .ok (.iload_n 2, 1) := by decide +kernel
theorem d_Ou_partingGap_57 : decode m_Ou_partingGap.2.1 57 = .ok (.if_icmp .ge 8, 3) := by decide +kernel
theorem d_Ou_partingGap_65 : decode m_Ou_partingGap.2.1 65 = .ok (.iinc 3 1, 3) := by decide +kernel
theorem d_Ou_partingGap_68 : decode m_Ou_partingGap.2.1 68 = .ok (.goto (-59), 3) := by decide +kernel
theorem d_Ou_partingGap_60 : decode m_Ou_partingGap.2.1 60 = .ok (.iload 4, 2) := by decide +kernel
theorem d_Ou_partingGap_62 : decode m_Ou_partingGap.2.1 62 = .ok (.istore_n 2, 1) := by decide +kernel
theorem d_Ou_partingGap_63 : decode m_Ou_partingGap.2.1 63 = .ok (.iload_n 3, 1) := by decide +kernel
theorem d_Ou_partingGap_64 : decode m_Ou_partingGap.2.1 64 = .ok (.istore_n 1, 1) := by decide +kernel
theorem d_Ou_partingGap_30 : decode m_Ou_partingGap.2.1 30 = .ok (.iload 4, 2) := by decide +kernel
theorem d_Ou_partingGap_32 : decode m_Ou_partingGap.2.1 32 = .ok (.aload_n 0, 1) := by decide +kernel
theorem d_Ou_partingGap_33 : decode m_Ou_partingGap.2.1 33 = .ok (.getfield 27, 3) := by decide +kernel
theorem d_Ou_partingGap_36 : decode m_Ou_partingGap.2.1 36 = .ok (.iload_n 3, 1) := by decide +kernel
theorem d_Ou_partingGap_37 : decode m_Ou_partingGap.2.1 37 = .ok (.iload 5, 2) := by decide +kernel
theorem d_Ou_partingGap_39 : decode m_Ou_partingGap.2.1 39 = .ok (.invokestatic 70, 3) := by decide +kernel
theorem d_Ou_partingGap_42 : decode m_Ou_partingGap.2.1 42 = .ok (.iaload, 1) := by decide +kernel
theorem d_Ou_partingGap_43 : decode m_Ou_partingGap.2.1 43 = .ok (.invokestatic 74, 3) := by decide +kernel
theorem lk_Ou_74 : Cond.methodLink "MaypoleGreen$Outlook" 74 m_Ma_max.1 ∈ aw_T := aw_in 1118 (by decide +kernel) rfl
theorem d_Ou_partingGap_46 : decode m_Ou_partingGap.2.1 46 = .ok (.istore 4, 2) := by decide +kernel
theorem d_Ou_partingGap_48 : decode m_Ou_partingGap.2.1 48 = .ok (.iinc 5 1, 3) := by decide +kernel
theorem d_Ou_partingGap_51 : decode m_Ou_partingGap.2.1 51 = .ok (.goto (-28), 3) := by decide +kernel
abbrev m_Py_worth : aw_MI := (⟨"MaypoleGreen$Play", "worth", "(LMaypoleGreen$Green;IZ)I"⟩, prog_9_method_2_code, 8, some .int)
theorem k_Py_worth : aw_K m_Py_worth 3 := ⟨aw_in 1125 (by decide +kernel) rfl, aw_in 21 (by decide +kernel) rfl, ⟨by decide, by decide, by decide +kernel⟩, by decide, by decide +kernel⟩
theorem d_Py_worth_0 : decode m_Py_worth.2.1 0 = .ok (.iload_n 1, 1) := by decide +kernel
theorem d_Py_worth_1 : decode m_Py_worth.2.1 1 = .ok (.ifCond .gt 8, 3) := by decide +kernel
theorem d_Py_worth_9 : decode m_Py_worth.2.1 9 = .ok (.aload_n 0, 1) := by decide +kernel
theorem d_Py_worth_10 : decode m_Py_worth.2.1 10 = .ok (.iload_n 1, 1) := by decide +kernel
theorem d_Py_worth_11 : decode m_Py_worth.2.1 11 = .ok (.iconst 1, 1) := by decide +kernel
theorem d_Py_worth_12 : decode m_Py_worth.2.1 12 = .ok (.isub, 1) := by decide +kernel
theorem d_Py_worth_13 : decode m_Py_worth.2.1 13 = .ok (.iload_n 2, 1) := by decide +kernel
theorem d_Py_worth_14 : decode m_Py_worth.2.1 14 = .ok (.ifCond .ne 7, 3) := by decide +kernel
theorem d_Py_worth_21 : decode m_Py_worth.2.1 21 = .ok (.iconst 0, 1) := by decide +kernel
theorem d_Py_worth_22 : decode m_Py_worth.2.1 22 = .ok (.invokestatic 15, 3) := by decide +kernel
theorem lk_Py_15 : Cond.methodLink "MaypoleGreen$Play" 15 m_Py_worth.1 ∈ aw_T := aw_in 1127 (by decide +kernel) rfl
theorem st_Py_worth : Cond.static m_Py_worth.1 ∈ aw_T := aw_in 1124 (by decide +kernel) rfl
theorem d_Py_worth_25 : decode m_Py_worth.2.1 25 = .ok (.istore_n 3, 1) := by decide +kernel
theorem d_Py_worth_26 : decode m_Py_worth.2.1 26 = .ok (.iconst 2, 1) := by decide +kernel
theorem d_Py_worth_27 : decode m_Py_worth.2.1 27 = .ok (.aload_n 0, 1) := by decide +kernel
theorem d_Py_worth_28 : decode m_Py_worth.2.1 28 = .ok (.invokevirtual 21, 3) := by decide +kernel
theorem lk_Py_21 : Cond.methodLink "MaypoleGreen$Play" 21 m_Gr_gaps.1 ∈ aw_T := aw_in 1128 (by decide +kernel) rfl
theorem d_Py_worth_31 : decode m_Py_worth.2.1 31 = .ok (.imul, 1) := by decide +kernel
theorem d_Py_worth_32 : decode m_Py_worth.2.1 32 = .ok (.istore 4, 2) := by decide +kernel
theorem d_Py_worth_34 : decode m_Py_worth.2.1 34 = .ok (.iconst 0, 1) := by decide +kernel
theorem d_Py_worth_35 : decode m_Py_worth.2.1 35 = .ok (.istore 5, 2) := by decide +kernel
theorem d_Py_worth_17 : decode m_Py_worth.2.1 17 = .ok (.iconst 1, 1) := by decide +kernel
theorem d_Py_worth_18 : decode m_Py_worth.2.1 18 = .ok (.goto 4, 3) := by decide +kernel
theorem d_Py_worth_4 : decode m_Py_worth.2.1 4 = .ok (.aload_n 0, 1) := by decide +kernel
theorem d_Py_worth_5 : decode m_Py_worth.2.1 5 = .ok (.invokevirtual 9, 3) := by decide +kernel
theorem lk_Py_9 : Cond.methodLink "MaypoleGreen$Play" 9 m_Gr_coloursShown.1 ∈ aw_T := aw_in 1126 (by decide +kernel) rfl
theorem in_Gr_coloursShown : Cond.instanceMethod m_Gr_coloursShown.1 ∈ aw_T := aw_in 819 (by decide +kernel) rfl
theorem se_Gr_coloursShown : Cond.selects m_Gr_coloursShown.1.cls m_Gr_coloursShown.1 m_Gr_coloursShown.1 ∈ aw_T := aw_in 820 (by decide +kernel) rfl
theorem d_Py_worth_8 : decode m_Py_worth.2.1 8 = .ok (.ireturn, 1) := by decide +kernel
theorem d_Py_worth_37 : decode m_Py_worth.2.1 37 = .ok (.iload 5, 2) := by decide +kernel
theorem d_Py_worth_39 : decode m_Py_worth.2.1 39 = .ok (.iload 4, 2) := by decide +kernel
theorem d_Py_worth_41 : decode m_Py_worth.2.1 41 = .ok (.if_icmp .ge 67, 3) := by decide +kernel
theorem d_Py_worth_108 : decode m_Py_worth.2.1 108 = .ok (.iload_n 3, 1) := by decide +kernel
theorem d_Py_worth_109 : decode m_Py_worth.2.1 109 = .ok (.ireturn, 1) := by decide +kernel
theorem d_Py_worth_44 : decode m_Py_worth.2.1 44 = .ok (.aload_n 0, 1) := by decide +kernel
theorem d_Py_worth_45 : decode m_Py_worth.2.1 45 = .ok (.iload 5, 2) := by decide +kernel
theorem d_Py_worth_47 : decode m_Py_worth.2.1 47 = .ok (.invokevirtual 24, 3) := by decide +kernel
theorem lk_Py_24 : Cond.methodLink "MaypoleGreen$Play" 24 m_Gr_makePass.1 ∈ aw_T := aw_in 1129 (by decide +kernel) rfl
theorem d_Py_worth_50 : decode m_Py_worth.2.1 50 = .ok (.istore 6, 2) := by decide +kernel
theorem d_Py_worth_52 : decode m_Py_worth.2.1 52 = .ok (.iload 6, 2) := by decide +kernel
theorem d_Py_worth_54 : decode m_Py_worth.2.1 54 = .ok (.iconst (-1), 1) := by decide +kernel
theorem d_Py_worth_55 : decode m_Py_worth.2.1 55 = .ok (.if_icmp .eq 47, 3) := by decide +kernel
theorem d_Py_worth_102 : decode m_Py_worth.2.1 102 = .ok (.iinc 5 1, 3) := by decide +kernel
theorem d_Py_worth_105 : decode m_Py_worth.2.1 105 = .ok (.goto (-68), 3) := by decide +kernel
theorem d_Py_worth_58 : decode m_Py_worth.2.1 58 = .ok (.aload_n 0, 1) := by decide +kernel
theorem d_Py_worth_59 : decode m_Py_worth.2.1 59 = .ok (.iload_n 1, 1) := by decide +kernel
theorem d_Py_worth_60 : decode m_Py_worth.2.1 60 = .ok (.iconst 1, 1) := by decide +kernel
theorem d_Py_worth_61 : decode m_Py_worth.2.1 61 = .ok (.isub, 1) := by decide +kernel
theorem d_Py_worth_62 : decode m_Py_worth.2.1 62 = .ok (.iload_n 2, 1) := by decide +kernel
theorem d_Py_worth_63 : decode m_Py_worth.2.1 63 = .ok (.ifCond .ne 7, 3) := by decide +kernel
theorem d_Py_worth_70 : decode m_Py_worth.2.1 70 = .ok (.iconst 0, 1) := by decide +kernel
theorem d_Py_worth_71 : decode m_Py_worth.2.1 71 = .ok (.invokestatic 15, 3) := by decide +kernel
theorem d_Py_worth_74 : decode m_Py_worth.2.1 74 = .ok (.istore 7, 2) := by decide +kernel
theorem d_Py_worth_76 : decode m_Py_worth.2.1 76 = .ok (.iload_n 2, 1) := by decide +kernel
theorem d_Py_worth_77 : decode m_Py_worth.2.1 77 = .ok (.ifCond .eq 12, 3) := by decide +kernel
theorem d_Py_worth_89 : decode m_Py_worth.2.1 89 = .ok (.iload_n 3, 1) := by decide +kernel
theorem d_Py_worth_90 : decode m_Py_worth.2.1 90 = .ok (.iload 7, 2) := by decide +kernel
theorem d_Py_worth_92 : decode m_Py_worth.2.1 92 = .ok (.invokestatic 34, 3) := by decide +kernel
theorem lk_Py_34 : Cond.methodLink "MaypoleGreen$Play" 34 m_Ma_min.1 ∈ aw_T := aw_in 1131 (by decide +kernel) rfl
theorem st_Ma_min : Cond.static m_Ma_min.1 ∈ aw_T := aw_in 996 (by decide +kernel) rfl
theorem d_Py_worth_95 : decode m_Py_worth.2.1 95 = .ok (.istore_n 3, 1) := by decide +kernel
theorem d_Py_worth_96 : decode m_Py_worth.2.1 96 = .ok (.aload_n 0, 1) := by decide +kernel
theorem d_Py_worth_97 : decode m_Py_worth.2.1 97 = .ok (.iload 6, 2) := by decide +kernel
theorem d_Py_worth_99 : decode m_Py_worth.2.1 99 = .ok (.invokevirtual 37, 3) := by decide +kernel
theorem lk_Py_37 : Cond.methodLink "MaypoleGreen$Play" 37 m_Gr_takeBack.1 ∈ aw_T := aw_in 1132 (by decide +kernel) rfl
theorem d_Py_worth_80 : decode m_Py_worth.2.1 80 = .ok (.iload_n 3, 1) := by decide +kernel
theorem d_Py_worth_81 : decode m_Py_worth.2.1 81 = .ok (.iload 7, 2) := by decide +kernel
theorem d_Py_worth_83 : decode m_Py_worth.2.1 83 = .ok (.invokestatic 28, 3) := by decide +kernel
theorem lk_Py_28 : Cond.methodLink "MaypoleGreen$Play" 28 m_Ma_max.1 ∈ aw_T := aw_in 1130 (by decide +kernel) rfl
theorem d_Py_worth_86 : decode m_Py_worth.2.1 86 = .ok (.goto 9, 3) := by decide +kernel
theorem d_Py_worth_66 : decode m_Py_worth.2.1 66 = .ok (.iconst 1, 1) := by decide +kernel
theorem d_Py_worth_67 : decode m_Py_worth.2.1 67 = .ok (.goto 4, 3) := by decide +kernel
abbrev m_Py_opening : aw_MI := (⟨"MaypoleGreen$Play", "opening", "(LMaypoleGreen$Green;I)I"⟩, prog_9_method_3_code, 8, some .int)
theorem k_Py_opening : aw_K m_Py_opening 2 := ⟨aw_in 1139 (by decide +kernel) rfl, aw_in 21 (by decide +kernel) rfl, ⟨by decide, by decide, by decide +kernel⟩, by decide, by decide +kernel⟩
theorem d_Py_opening_0 : decode m_Py_opening.2.1 0 = .ok (.iconst (-1), 1) := by decide +kernel
theorem d_Py_opening_1 : decode m_Py_opening.2.1 1 = .ok (.istore_n 2, 1) := by decide +kernel
theorem d_Py_opening_2 : decode m_Py_opening.2.1 2 = .ok (.iconst (-1), 1) := by decide +kernel
theorem d_Py_opening_3 : decode m_Py_opening.2.1 3 = .ok (.istore_n 3, 1) := by decide +kernel
theorem d_Py_opening_4 : decode m_Py_opening.2.1 4 = .ok (.iconst 2, 1) := by decide +kernel
theorem d_Py_opening_5 : decode m_Py_opening.2.1 5 = .ok (.aload_n 0, 1) := by decide +kernel
theorem d_Py_opening_6 : decode m_Py_opening.2.1 6 = .ok (.invokevirtual 21, 3) := by decide +kernel
theorem d_Py_opening_9 : decode m_Py_opening.2.1 9 = .ok (.imul, 1) := by decide +kernel
theorem d_Py_opening_10 : decode m_Py_opening.2.1 10 = .ok (.istore 4, 2) := by decide +kernel
theorem d_Py_opening_12 : decode m_Py_opening.2.1 12 = .ok (.iconst 0, 1) := by decide +kernel
theorem d_Py_opening_13 : decode m_Py_opening.2.1 13 = .ok (.istore 5, 2) := by decide +kernel
theorem d_Py_opening_15 : decode m_Py_opening.2.1 15 = .ok (.iload 5, 2) := by decide +kernel
theorem d_Py_opening_17 : decode m_Py_opening.2.1 17 = .ok (.iload 4, 2) := by decide +kernel
theorem d_Py_opening_19 : decode m_Py_opening.2.1 19 = .ok (.if_icmp .ge 51, 3) := by decide +kernel
theorem d_Py_opening_70 : decode m_Py_opening.2.1 70 = .ok (.aload_n 0, 1) := by decide +kernel
theorem d_Py_opening_71 : decode m_Py_opening.2.1 71 = .ok (.iload_n 1, 1) := by decide +kernel
theorem d_Py_opening_72 : decode m_Py_opening.2.1 72 = .ok (.iconst 1, 1) := by decide +kernel
theorem d_Py_opening_73 : decode m_Py_opening.2.1 73 = .ok (.isub, 1) := by decide +kernel
theorem d_Py_opening_74 : decode m_Py_opening.2.1 74 = .ok (.iconst 0, 1) := by decide +kernel
theorem d_Py_opening_75 : decode m_Py_opening.2.1 75 = .ok (.invokestatic 15, 3) := by decide +kernel
theorem d_Py_opening_78 : decode m_Py_opening.2.1 78 = .ok (.iload_n 2, 1) := by decide +kernel
theorem d_Py_opening_79 : decode m_Py_opening.2.1 79 = .ok (.if_icmp .le 7, 3) := by decide +kernel
theorem d_Py_opening_86 : decode m_Py_opening.2.1 86 = .ok (.iload_n 3, 1) := by decide +kernel
theorem d_Py_opening_87 : decode m_Py_opening.2.1 87 = .ok (.ireturn, 1) := by decide +kernel
theorem d_Py_opening_82 : decode m_Py_opening.2.1 82 = .ok (.iconst (-1), 1) := by decide +kernel
theorem d_Py_opening_83 : decode m_Py_opening.2.1 83 = .ok (.goto 4, 3) := by decide +kernel
theorem d_Py_opening_22 : decode m_Py_opening.2.1 22 = .ok (.aload_n 0, 1) := by decide +kernel
theorem d_Py_opening_23 : decode m_Py_opening.2.1 23 = .ok (.iload 5, 2) := by decide +kernel
theorem d_Py_opening_25 : decode m_Py_opening.2.1 25 = .ok (.invokevirtual 24, 3) := by decide +kernel
theorem d_Py_opening_28 : decode m_Py_opening.2.1 28 = .ok (.istore 6, 2) := by decide +kernel
theorem d_Py_opening_30 : decode m_Py_opening.2.1 30 = .ok (.iload 6, 2) := by decide +kernel
theorem d_Py_opening_32 : decode m_Py_opening.2.1 32 = .ok (.iconst (-1), 1) := by decide +kernel
theorem d_Py_opening_33 : decode m_Py_opening.2.1 33 = .ok (.if_icmp .eq 31, 3) := by decide +kernel
theorem d_Py_opening_64 : decode m_Py_opening.2.1 64 = .ok (.iinc 5 1, 3) := by decide +kernel
theorem d_Py_opening_67 : decode m_Py_opening.2.1 67 = .ok (.goto (-52), 3) := by decide +kernel
theorem d_Py_opening_36 : decode m_Py_opening.2.1 36 = .ok (.aload_n 0, 1) := by decide +kernel
theorem d_Py_opening_37 : decode m_Py_opening.2.1 37 = .ok (.iload_n 1, 1) := by decide +kernel
theorem d_Py_opening_38 : decode m_Py_opening.2.1 38 = .ok (.iconst 1, 1) := by decide +kernel
theorem d_Py_opening_39 : decode m_Py_opening.2.1 39 = .ok (.isub, 1) := by decide +kernel
theorem d_Py_opening_40 : decode m_Py_opening.2.1 40 = .ok (.iconst 0, 1) := by decide +kernel
theorem d_Py_opening_41 : decode m_Py_opening.2.1 41 = .ok (.invokestatic 15, 3) := by decide +kernel
theorem d_Py_opening_44 : decode m_Py_opening.2.1 44 = .ok (.istore 7, 2) := by decide +kernel
theorem d_Py_opening_46 : decode m_Py_opening.2.1 46 = .ok (.aload_n 0, 1) := by decide +kernel
theorem d_Py_opening_47 : decode m_Py_opening.2.1 47 = .ok (.iload 6, 2) := by decide +kernel
theorem d_Py_opening_49 : decode m_Py_opening.2.1 49 = .ok (.invokevirtual 37, 3) := by decide +kernel
theorem d_Py_opening_52 : decode m_Py_opening.2.1 52 = .ok (.iload 7, 2) := by decide +kernel
theorem d_Py_opening_54 : decode m_Py_opening.2.1 54 = .ok (.iload_n 2, 1) := by decide +kernel
theorem d_Py_opening_55 : decode m_Py_opening.2.1 55 = .ok (.if_icmp .le 9, 3) := by decide +kernel
theorem d_Py_opening_58 : decode m_Py_opening.2.1 58 = .ok (.iload 7, 2) := by decide +kernel
theorem d_Py_opening_60 : decode m_Py_opening.2.1 60 = .ok (.istore_n 2, 1) := by decide +kernel
theorem d_Py_opening_61 : decode m_Py_opening.2.1 61 = .ok (.iload 5, 2) := by decide +kernel
theorem d_Py_opening_63 : decode m_Py_opening.2.1 63 = .ok (.istore_n 3, 1) := by decide +kernel
