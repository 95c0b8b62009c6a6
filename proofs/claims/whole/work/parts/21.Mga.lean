abbrev m_Mg_status : aw_MI := (⟨"MaypoleGreen", "status", "()I"⟩, prog_1_method_2_code, 1, some .int)
theorem k_Mg_status : aw_K m_Mg_status 0 := ⟨aw_in 484 (by decide +kernel) rfl, aw_in 1 (by decide +kernel) rfl, ⟨by decide, by decide, by decide +kernel⟩, by decide, by decide +kernel⟩
theorem d_Mg_status_0 : decode m_Mg_status.2.1 0 = .ok (.aload_n 0, 1) := by decide +kernel
theorem d_Mg_status_1 : decode m_Mg_status.2.1 1 = .ok (.getfield 96, 3) := by decide +kernel
theorem f_Mg_96 : aw_F "MaypoleGreen" 96 0 3 false := ⟨cR0, cT0, 19, fun k => cY0.getD k .int, rfl, ci0, cy0, cn0, rfl, by decide, aw_in 426 (by decide +kernel) rfl, rfl, rfl, rfl⟩
theorem d_Mg_status_4 : decode m_Mg_status.2.1 4 = .ok (.ireturn, 1) := by decide +kernel
abbrev m_Mg_top : aw_MI := (⟨"MaypoleGreen", "top", "()J"⟩, prog_1_method_3_code, 1, some .long)
theorem k_Mg_top : aw_K m_Mg_top 0 := ⟨aw_in 488 (by decide +kernel) rfl, aw_in 1 (by decide +kernel) rfl, ⟨by decide, by decide, by decide +kernel⟩, by decide, by decide +kernel⟩
theorem d_Mg_top_0 : decode m_Mg_top.2.1 0 = .ok (.aload_n 0, 1) := by decide +kernel
theorem d_Mg_top_1 : decode m_Mg_top.2.1 1 = .ok (.getfield 92, 3) := by decide +kernel
theorem f_Mg_92 : aw_F "MaypoleGreen" 92 0 18 true := ⟨cR0, cT0, 19, fun k => cY0.getD k .int, rfl, ci0, cy0, cn0, rfl, by decide, aw_in 441 (by decide +kernel) rfl, rfl, rfl, rfl⟩
theorem d_Mg_top_4 : decode m_Mg_top.2.1 4 = .ok (.getfield 99, 3) := by decide +kernel
theorem f_Mg_99 : aw_F "MaypoleGreen" 99 10 0 false := ⟨cR10, cT10, 4, fun k => cY10.getD k .int, rfl, ci10, cy10, cn10, rfl, by decide, aw_in 409 (by decide +kernel) rfl, rfl, rfl, rfl⟩
theorem d_Mg_top_7 : decode m_Mg_top.2.1 7 = .ok (.lreturn, 1) := by decide +kernel
abbrev m_Mg_bottom : aw_MI := (⟨"MaypoleGreen", "bottom", "()J"⟩, prog_1_method_4_code, 1, some .long)
theorem k_Mg_bottom : aw_K m_Mg_bottom 0 := ⟨aw_in 492 (by decide +kernel) rfl, aw_in 1 (by decide +kernel) rfl, ⟨by decide, by decide, by decide +kernel⟩, by decide, by decide +kernel⟩
theorem d_Mg_bottom_0 : decode m_Mg_bottom.2.1 0 = .ok (.aload_n 0, 1) := by decide +kernel
theorem d_Mg_bottom_1 : decode m_Mg_bottom.2.1 1 = .ok (.getfield 92, 3) := by decide +kernel
theorem d_Mg_bottom_4 : decode m_Mg_bottom.2.1 4 = .ok (.getfield 103, 3) := by decide +kernel
theorem f_Mg_103 : aw_F "MaypoleGreen" 103 10 1 false := ⟨cR10, cT10, 4, fun k => cY10.getD k .int, rfl, ci10, cy10, cn10, rfl, by decide, aw_in 411 (by decide +kernel) rfl, rfl, rfl, rfl⟩
theorem d_Mg_bottom_7 : decode m_Mg_bottom.2.1 7 = .ok (.lreturn, 1) := by decide +kernel
abbrev m_Mg_tray : aw_MI := (⟨"MaypoleGreen", "tray", "(III)Z"⟩, prog_1_method_5_code, 4, some .boolean)
theorem k_Mg_tray : aw_K m_Mg_tray 3 := ⟨aw_in 496 (by decide +kernel) rfl, aw_in 1 (by decide +kernel) rfl, ⟨by decide, by decide, by decide +kernel⟩, by decide, by decide +kernel⟩
theorem d_Mg_tray_0 : decode m_Mg_tray.2.1 0 = .ok (.iload_n 1, 1) := by decide +kernel
theorem d_Mg_tray_1 : decode m_Mg_tray.2.1 1 = .ok (.invokestatic 106, 3) := by decide +kernel
abbrev m_Mg_isTray : aw_MI := (⟨"MaypoleGreen", "isTray", "(I)Z"⟩, prog_1_method_53_code, 1, some .boolean)
theorem lk_Mg_106 : Cond.methodLink "MaypoleGreen" 106 m_Mg_isTray.1 ∈ aw_T := aw_in 497 (by decide +kernel) rfl
theorem k_Mg_isTray : aw_K m_Mg_isTray 1 := ⟨aw_in 499 (by decide +kernel) rfl, aw_in 1 (by decide +kernel) rfl, ⟨by decide, by decide, by decide +kernel⟩, by decide, by decide +kernel⟩
theorem st_Mg_isTray : Cond.static m_Mg_isTray.1 ∈ aw_T := aw_in 498 (by decide +kernel) rfl
theorem d_Mg_tray_4 : decode m_Mg_tray.2.1 4 = .ok (.ifCond .eq 22, 3) := by decide +kernel
theorem d_Mg_tray_26 : decode m_Mg_tray.2.1 26 = .ok (.aload_n 0, 1) := by decide +kernel
theorem d_Mg_tray_27 : decode m_Mg_tray.2.1 27 = .ok (.iconst 1, 1) := by decide +kernel
theorem d_Mg_tray_28 : decode m_Mg_tray.2.1 28 = .ok (.invokevirtual 114, 3) := by decide +kernel
abbrev m_Mg_refuse : aw_MI := (⟨"MaypoleGreen", "refuse", "(I)Z"⟩, prog_1_method_51_code, 2, some .boolean)
theorem lk_Mg_114 : Cond.methodLink "MaypoleGreen" 114 m_Mg_refuse.1 ∈ aw_T := aw_in 503 (by decide +kernel) rfl
theorem k_Mg_refuse : aw_K m_Mg_refuse 1 := ⟨aw_in 506 (by decide +kernel) rfl, aw_in 1 (by decide +kernel) rfl, ⟨by decide, by decide, by decide +kernel⟩, by decide, by decide +kernel⟩
theorem in_Mg_refuse : Cond.instanceMethod m_Mg_refuse.1 ∈ aw_T := aw_in 505 (by decide +kernel) rfl
theorem se_Mg_refuse : Cond.selects m_Mg_refuse.1.cls m_Mg_refuse.1 m_Mg_refuse.1 ∈ aw_T := aw_inP 0 (by decide +kernel) rfl
theorem d_Mg_tray_31 : decode m_Mg_tray.2.1 31 = .ok (.ireturn, 1) := by decide +kernel
theorem d_Mg_tray_7 : decode m_Mg_tray.2.1 7 = .ok (.iload_n 2, 1) := by decide +kernel
theorem d_Mg_tray_8 : decode m_Mg_tray.2.1 8 = .ok (.iconst 0, 1) := by decide +kernel
theorem d_Mg_tray_9 : decode m_Mg_tray.2.1 9 = .ok (.iconst 3, 1) := by decide +kernel
theorem d_Mg_tray_10 : decode m_Mg_tray.2.1 10 = .ok (.invokestatic 110, 3) := by decide +kernel
theorem lk_Mg_110 : Cond.methodLink "MaypoleGreen" 110 m_Mg_isWithin.1 ∈ aw_T := aw_in 500 (by decide +kernel) rfl
theorem d_Mg_tray_13 : decode m_Mg_tray.2.1 13 = .ok (.ifCond .eq 13, 3) := by decide +kernel
theorem d_Mg_tray_16 : decode m_Mg_tray.2.1 16 = .ok (.iload_n 3, 1) := by decide +kernel
theorem d_Mg_tray_17 : decode m_Mg_tray.2.1 17 = .ok (.iconst 0, 1) := by decide +kernel
theorem d_Mg_tray_18 : decode m_Mg_tray.2.1 18 = .ok (.bipush 60, 2) := by decide +kernel
theorem d_Mg_tray_20 : decode m_Mg_tray.2.1 20 = .ok (.invokestatic 110, 3) := by decide +kernel
theorem d_Mg_tray_23 : decode m_Mg_tray.2.1 23 = .ok (.ifCond .ne 9, 3) := by decide +kernel
theorem d_Mg_tray_32 : decode m_Mg_tray.2.1 32 = .ok (.aload_n 0, 1) := by decide +kernel
theorem d_Mg_tray_33 : decode m_Mg_tray.2.1 33 = .ok (.getfield 11, 3) := by decide +kernel
theorem f_Mg_11 : aw_F "MaypoleGreen" 11 0 0 true := ⟨cR0, cT0, 19, fun k => cY0.getD k .int, rfl, ci0, cy0, cn0, rfl, by decide, aw_in 423 (by decide +kernel) rfl, rfl, rfl, rfl⟩
theorem d_Mg_tray_36 : decode m_Mg_tray.2.1 36 = .ok (.iload_n 1, 1) := by decide +kernel
theorem d_Mg_tray_37 : decode m_Mg_tray.2.1 37 = .ok (.aaload, 1) := by decide +kernel
theorem d_Mg_tray_38 : decode m_Mg_tray.2.1 38 = .ok (.iload_n 2, 1) := by decide +kernel
theorem d_Mg_tray_39 : decode m_Mg_tray.2.1 39 = .ok (.iload_n 3, 1) := by decide +kernel
theorem d_Mg_tray_40 : decode m_Mg_tray.2.1 40 = .ok (.invokevirtual 117, 3) := by decide +kernel
theorem lk_Mg_117 : Cond.methodLink "MaypoleGreen" 117 m_Tr_become.1 ∈ aw_T := aw_in 507 (by decide +kernel) rfl
theorem in_Tr_become : Cond.instanceMethod m_Tr_become.1 ∈ aw_T := aw_in 508 (by decide +kernel) rfl
theorem se_Tr_become : Cond.selects m_Tr_become.1.cls m_Tr_become.1 m_Tr_become.1 ∈ aw_T := aw_in 509 (by decide +kernel) rfl
theorem d_Mg_tray_43 : decode m_Mg_tray.2.1 43 = .ok (.aload_n 0, 1) := by decide +kernel
theorem d_Mg_tray_44 : decode m_Mg_tray.2.1 44 = .ok (.invokevirtual 121, 3) := by decide +kernel
abbrev m_Mg_grant : aw_MI := (⟨"MaypoleGreen", "grant", "()Z"⟩, prog_1_method_50_code, 1, some .boolean)
theorem lk_Mg_121 : Cond.methodLink "MaypoleGreen" 121 m_Mg_grant.1 ∈ aw_T := aw_in 514 (by decide +kernel) rfl
theorem k_Mg_grant : aw_K m_Mg_grant 0 := ⟨aw_in 517 (by decide +kernel) rfl, aw_in 1 (by decide +kernel) rfl, ⟨by decide, by decide, by decide +kernel⟩, by decide, by decide +kernel⟩
theorem in_Mg_grant : Cond.instanceMethod m_Mg_grant.1 ∈ aw_T := aw_in 516 (by decide +kernel) rfl
theorem se_Mg_grant : Cond.selects m_Mg_grant.1.cls m_Mg_grant.1 m_Mg_grant.1 ∈ aw_T := aw_inP 1 (by decide +kernel) rfl
theorem d_Mg_tray_47 : decode m_Mg_tray.2.1 47 = .ok (.ireturn, 1) := by decide +kernel
theorem d_Mg_isTray_0 : decode m_Mg_isTray.2.1 0 = .ok (.iload_n 0, 1) := by decide +kernel
theorem d_Mg_isTray_1 : decode m_Mg_isTray.2.1 1 = .ok (.iconst 0, 1) := by decide +kernel
theorem d_Mg_isTray_2 : decode m_Mg_isTray.2.1 2 = .ok (.iconst 3, 1) := by decide +kernel
theorem d_Mg_isTray_3 : decode m_Mg_isTray.2.1 3 = .ok (.invokestatic 110, 3) := by decide +kernel
theorem d_Mg_isTray_6 : decode m_Mg_isTray.2.1 6 = .ok (.ireturn, 1) := by decide +kernel
theorem d_Mg_isWithin_0 : decode m_Mg_isWithin.2.1 0 = .ok (.iload_n 0, 1) := by decide +kernel
theorem d_Mg_isWithin_1 : decode m_Mg_isWithin.2.1 1 = .ok (.iload_n 1, 1) := by decide +kernel
theorem d_Mg_isWithin_2 : decode m_Mg_isWithin.2.1 2 = .ok (.if_icmp .lt 12, 3) := by decide +kernel
theorem d_Mg_isWithin_14 : decode m_Mg_isWithin.2.1 14 = .ok (.iconst 0, 1) := by decide +kernel
theorem d_Mg_isWithin_15 : decode m_Mg_isWithin.2.1 15 = .ok (.ireturn, 1) := by decide +kernel
theorem d_Mg_isWithin_5 : decode m_Mg_isWithin.2.1 5 = .ok (.iload_n 0, 1) := by decide +kernel
theorem d_Mg_isWithin_6 : decode m_Mg_isWithin.2.1 6 = .ok (.iload_n 2, 1) := by decide +kernel
theorem d_Mg_isWithin_7 : decode m_Mg_isWithin.2.1 7 = .ok (.if_icmp .gt 7, 3) := by decide +kernel
theorem d_Mg_isWithin_10 : decode m_Mg_isWithin.2.1 10 = .ok (.iconst 1, 1) := by decide +kernel
theorem d_Mg_isWithin_11 : decode m_Mg_isWithin.2.1 11 = .ok (.goto 4, 3) := by decide +kernel
theorem d_Mg_refuse_0 : decode m_Mg_refuse.2.1 0 = .ok (.aload_n 0, 1) := by decide +kernel
theorem d_Mg_refuse_1 : decode m_Mg_refuse.2.1 1 = .ok (.iload_n 1, 1) := by decide +kernel
theorem d_Mg_refuse_2 : decode m_Mg_refuse.2.1 2 = .ok (.putfield 96, 3) := by decide +kernel
theorem d_Mg_refuse_5 : decode m_Mg_refuse.2.1 5 = .ok (.iconst 0, 1) := by decide +kernel
theorem d_Mg_refuse_6 : decode m_Mg_refuse.2.1 6 = .ok (.ireturn, 1) := by decide +kernel
theorem d_Mg_grant_0 : decode m_Mg_grant.2.1 0 = .ok (.aload_n 0, 1) := by decide +kernel
theorem d_Mg_grant_1 : decode m_Mg_grant.2.1 1 = .ok (.iconst 0, 1) := by decide +kernel
theorem d_Mg_grant_2 : decode m_Mg_grant.2.1 2 = .ok (.putfield 96, 3) := by decide +kernel
theorem d_Mg_grant_5 : decode m_Mg_grant.2.1 5 = .ok (.iconst 1, 1) := by decide +kernel
theorem d_Mg_grant_6 : decode m_Mg_grant.2.1 6 = .ok (.ireturn, 1) := by decide +kernel
abbrev m_Mg_write : aw_MI := (⟨"MaypoleGreen", "write", "(IIJ)Z"⟩, prog_1_method_6_code, 6, some .boolean)
theorem k_Mg_write : aw_K m_Mg_write 3 := ⟨aw_in 521 (by decide +kernel) rfl, aw_in 1 (by decide +kernel) rfl, ⟨by decide, by decide, by decide +kernel⟩, by decide, by decide +kernel⟩
theorem d_Mg_write_0 : decode m_Mg_write.2.1 0 = .ok (.aload_n 0, 1) := by decide +kernel
theorem d_Mg_write_1 : decode m_Mg_write.2.1 1 = .ok (.iload_n 1, 1) := by decide +kernel
theorem d_Mg_write_2 : decode m_Mg_write.2.1 2 = .ok (.iload_n 2, 1) := by decide +kernel
theorem d_Mg_write_3 : decode m_Mg_write.2.1 3 = .ok (.invokevirtual 125, 3) := by decide +kernel
abbrev m_Mg_cellProblem : aw_MI := (⟨"MaypoleGreen", "cellProblem", "(II)I"⟩, prog_1_method_58_code, 3, some .int)
theorem lk_Mg_125 : Cond.methodLink "MaypoleGreen" 125 m_Mg_cellProblem.1 ∈ aw_T := aw_in 522 (by decide +kernel) rfl
theorem k_Mg_cellProblem : aw_K m_Mg_cellProblem 2 := ⟨aw_in 525 (by decide +kernel) rfl, aw_in 1 (by decide +kernel) rfl, ⟨by decide, by decide, by decide +kernel⟩, by decide, by decide +kernel⟩
theorem in_Mg_cellProblem : Cond.instanceMethod m_Mg_cellProblem.1 ∈ aw_T := aw_in 524 (by decide +kernel) rfl
theorem se_Mg_cellProblem : Cond.selects m_Mg_cellProblem.1.cls m_Mg_cellProblem.1 m_Mg_cellProblem.1 ∈ aw_T := aw_inP 2 (by decide +kernel) rfl
theorem d_Mg_write_6 : decode m_Mg_write.2.1 6 = .ok (.istore 5, 2) := by decide +kernel
theorem d_Mg_write_8 : decode m_Mg_write.2.1 8 = .ok (.iload 5, 2) := by decide +kernel
theorem d_Mg_write_10 : decode m_Mg_write.2.1 10 = .ok (.ifCond .eq 10, 3) := by decide +kernel
theorem d_Mg_write_20 : decode m_Mg_write.2.1 20 = .ok (.aload_n 0, 1) := by decide +kernel
theorem d_Mg_write_21 : decode m_Mg_write.2.1 21 = .ok (.getfield 11, 3) := by decide +kernel
theorem d_Mg_write_24 : decode m_Mg_write.2.1 24 = .ok (.iload_n 1, 1) := by decide +kernel
theorem d_Mg_write_25 : decode m_Mg_write.2.1 25 = .ok (.aaload, 1) := by decide +kernel
theorem d_Mg_write_26 : decode m_Mg_write.2.1 26 = .ok (.iload_n 2, 1) := by decide +kernel
theorem d_Mg_write_27 : decode m_Mg_write.2.1 27 = .ok (.lload_n 3, 1) := by decide +kernel
theorem d_Mg_write_28 : decode m_Mg_write.2.1 28 = .ok (.invokevirtual 129, 3) := by decide +kernel
theorem lk_Mg_129 : Cond.methodLink "MaypoleGreen" 129 m_Tr_put.1 ∈ aw_T := aw_in 526 (by decide +kernel) rfl
theorem in_Tr_put : Cond.instanceMethod m_Tr_put.1 ∈ aw_T := aw_in 527 (by decide +kernel) rfl
theorem se_Tr_put : Cond.selects m_Tr_put.1.cls m_Tr_put.1 m_Tr_put.1 ∈ aw_T := aw_in 528 (by decide +kernel) rfl
theorem d_Mg_write_31 : decode m_Mg_write.2.1 31 = .ok (.aload_n 0, 1) := by decide +kernel
theorem d_Mg_write_32 : decode m_Mg_write.2.1 32 = .ok (.invokevirtual 121, 3) := by decide +kernel
theorem d_Mg_write_35 : decode m_Mg_write.2.1 35 = .ok (.ireturn, 1) := by decide +kernel
theorem d_Mg_write_13 : decode m_Mg_write.2.1 13 = .ok (.aload_n 0, 1) := by decide +kernel
theorem d_Mg_write_14 : decode m_Mg_write.2.1 14 = .ok (.iload 5, 2) := by decide +kernel
theorem d_Mg_write_16 : decode m_Mg_write.2.1 16 = .ok (.invokevirtual 114, 3) := by decide +kernel
theorem d_Mg_write_19 : decode m_Mg_write.2.1 19 = .ok (.ireturn, 1) := by decide +kernel
theorem d_Mg_cellProblem_0 : decode m_Mg_cellProblem.2.1 0 = .ok (.iload_n 1, 1) := by decide +kernel
theorem d_Mg_cellProblem_1 : decode m_Mg_cellProblem.2.1 1 = .ok (.invokestatic 106, 3) := by decide +kernel
theorem d_Mg_cellProblem_4 : decode m_Mg_cellProblem.2.1 4 = .ok (.ifCond .ne 5, 3) := by decide +kernel
theorem d_Mg_cellProblem_9 : decode m_Mg_cellProblem.2.1 9 = .ok (.aload_n 0, 1) := by decide +kernel
theorem d_Mg_cellProblem_10 : decode m_Mg_cellProblem.2.1 10 = .ok (.getfield 11, 3) := by decide +kernel
theorem d_Mg_cellProblem_13 : decode m_Mg_cellProblem.2.1 13 = .ok (.iload_n 1, 1) := by decide +kernel
theorem d_Mg_cellProblem_14 : decode m_Mg_cellProblem.2.1 14 = .ok (.aaload, 1) := by decide +kernel
theorem d_Mg_cellProblem_15 : decode m_Mg_cellProblem.2.1 15 = .ok (.getfield 141, 3) := by decide +kernel
theorem f_Mg_141 : aw_F "MaypoleGreen" 141 1 1 false := ⟨cR1, cT1, 4, fun k => cY1.getD k .int, rfl, ci1, cy1, cn1, rfl, by decide, aw_in 41 (by decide +kernel) rfl, rfl, rfl, rfl⟩
theorem d_Mg_cellProblem_18 : decode m_Mg_cellProblem.2.1 18 = .ok (.ifCond .ne 5, 3) := by decide +kernel
theorem d_Mg_cellProblem_23 : decode m_Mg_cellProblem.2.1 23 = .ok (.iload_n 2, 1) := by decide +kernel
theorem d_Mg_cellProblem_24 : decode m_Mg_cellProblem.2.1 24 = .ok (.iconst 0, 1) := by decide +kernel
theorem d_Mg_cellProblem_25 : decode m_Mg_cellProblem.2.1 25 = .ok (.aload_n 0, 1) := by decide +kernel
theorem d_Mg_cellProblem_26 : decode m_Mg_cellProblem.2.1 26 = .ok (.getfield 11, 3) := by decide +kernel
theorem d_Mg_cellProblem_29 : decode m_Mg_cellProblem.2.1 29 = .ok (.iload_n 1, 1) := by decide +kernel
theorem d_Mg_cellProblem_30 : decode m_Mg_cellProblem.2.1 30 = .ok (.aaload, 1) := by decide +kernel
theorem d_Mg_cellProblem_31 : decode m_Mg_cellProblem.2.1 31 = .ok (.getfield 360, 3) := by decide +kernel
theorem f_Mg_360 : aw_F "MaypoleGreen" 360 1 3 false := ⟨cR1, cT1, 4, fun k => cY1.getD k .int, rfl, ci1, cy1, cn1, rfl, by decide, aw_in 45 (by decide +kernel) rfl, rfl, rfl, rfl⟩
theorem d_Mg_cellProblem_34 : decode m_Mg_cellProblem.2.1 34 = .ok (.iconst 1, 1) := by decide +kernel
theorem d_Mg_cellProblem_35 : decode m_Mg_cellProblem.2.1 35 = .ok (.isub, 1) := by decide +kernel
theorem d_Mg_cellProblem_36 : decode m_Mg_cellProblem.2.1 36 = .ok (.invokestatic 110, 3) := by decide +kernel
theorem d_Mg_cellProblem_39 : decode m_Mg_cellProblem.2.1 39 = .ok (.ifCond .eq 7, 3) := by decide +kernel
theorem d_Mg_cellProblem_46 : decode m_Mg_cellProblem.2.1 46 = .ok (.iconst 3, 1) := by decide +kernel
theorem d_Mg_cellProblem_47 : decode m_Mg_cellProblem.2.1 47 = .ok (.ireturn, 1) := by decide +kernel
theorem d_Mg_cellProblem_42 : decode m_Mg_cellProblem.2.1 42 = .ok (.iconst 0, 1) := by decide +kernel
theorem d_Mg_cellProblem_43 : decode m_Mg_cellProblem.2.1 43 = .ok (.goto 4, 3) := by decide +kernel
theorem d_Mg_cellProblem_21 : decode m_Mg_cellProblem.2.1 21 = .ok (.iconst 2, 1) := by decide +kernel
theorem d_Mg_cellProblem_22 : decode m_Mg_cellProblem.2.1 22 = .ok (.ireturn, 1) := by decide +kernel
theorem d_Mg_cellProblem_7 : decode m_Mg_cellProblem.2.1 7 = .ok (.iconst 1, 1) := by decide +kernel
theorem d_Mg_cellProblem_8 : decode m_Mg_cellProblem.2.1 8 = .ok (.ireturn, 1) := by decide +kernel
abbrev m_Mg_read : aw_MI := (⟨"MaypoleGreen", "read", "(II)J"⟩, prog_1_method_7_code, 4, some .long)
theorem k_Mg_read : aw_K m_Mg_read 2 := ⟨aw_in 537 (by decide +kernel) rfl, aw_in 1 (by decide +kernel) rfl, ⟨by decide, by decide, by decide +kernel⟩, by decide, by decide +kernel⟩
theorem d_Mg_read_0 : decode m_Mg_read.2.1 0 = .ok (.aload_n 0, 1) := by decide +kernel
theorem d_Mg_read_1 : decode m_Mg_read.2.1 1 = .ok (.iload_n 1, 1) := by decide +kernel
theorem d_Mg_read_2 : decode m_Mg_read.2.1 2 = .ok (.iload_n 2, 1) := by decide +kernel
theorem d_Mg_read_3 : decode m_Mg_read.2.1 3 = .ok (.invokevirtual 125, 3) := by decide +kernel
theorem d_Mg_read_6 : decode m_Mg_read.2.1 6 = .ok (.istore_n 3, 1) := by decide +kernel
theorem d_Mg_read_7 : decode m_Mg_read.2.1 7 = .ok (.iload_n 3, 1) := by decide +kernel
theorem d_Mg_read_8 : decode m_Mg_read.2.1 8 = .ok (.ifCond .eq 10, 3) := by decide +kernel
theorem d_Mg_read_18 : decode m_Mg_read.2.1 18 = .ok (.aload_n 0, 1) := by decide +kernel
theorem d_Mg_read_19 : decode m_Mg_read.2.1 19 = .ok (.iconst 0, 1) := by decide +kernel
theorem d_Mg_read_20 : decode m_Mg_read.2.1 20 = .ok (.putfield 96, 3) := by decide +kernel
theorem d_Mg_read_23 : decode m_Mg_read.2.1 23 = .ok (.aload_n 0, 1) := by decide +kernel
theorem d_Mg_read_24 : decode m_Mg_read.2.1 24 = .ok (.getfield 11, 3) := by decide +kernel
theorem d_Mg_read_27 : decode m_Mg_read.2.1 27 = .ok (.iload_n 1, 1) := by decide +kernel
theorem d_Mg_read_28 : decode m_Mg_read.2.1 28 = .ok (.aaload, 1) := by decide +kernel
theorem d_Mg_read_29 : decode m_Mg_read.2.1 29 = .ok (.getfield 137, 3) := by decide +kernel
theorem f_Mg_137 : aw_F "MaypoleGreen" 137 1 0 true := ⟨cR1, cT1, 4, fun k => cY1.getD k .int, rfl, ci1, cy1, cn1, rfl, by decide, aw_in 39 (by decide +kernel) rfl, rfl, rfl, rfl⟩
theorem d_Mg_read_32 : decode m_Mg_read.2.1 32 = .ok (.iload_n 2, 1) := by decide +kernel
theorem d_Mg_read_33 : decode m_Mg_read.2.1 33 = .ok (.laload, 1) := by decide +kernel
theorem d_Mg_read_34 : decode m_Mg_read.2.1 34 = .ok (.lreturn, 1) := by decide +kernel
theorem d_Mg_read_11 : decode m_Mg_read.2.1 11 = .ok (.aload_n 0, 1) := by decide +kernel
theorem d_Mg_read_12 : decode m_Mg_read.2.1 12 = .ok (.iload_n 3, 1) := by decide +kernel
theorem d_Mg_read_13 : decode m_Mg_read.2.1 13 = .ok (.invokevirtual 133, 3) := by decide +kernel
abbrev m_Mg_fail : aw_MI := (⟨"MaypoleGreen", "fail", "(I)I"⟩, prog_1_method_49_code, 2, some .int)
theorem lk_Mg_133 : Cond.methodLink "MaypoleGreen" 133 m_Mg_fail.1 ∈ aw_T := aw_in 538 (by decide +kernel) rfl
theorem k_Mg_fail : aw_K m_Mg_fail 1 := ⟨aw_in 541 (by decide +kernel) rfl, aw_in 1 (by decide +kernel) rfl, ⟨by decide, by decide, by decide +kernel⟩, by decide, by decide +kernel⟩
theorem in_Mg_fail : Cond.instanceMethod m_Mg_fail.1 ∈ aw_T := aw_in 540 (by decide +kernel) rfl
theorem se_Mg_fail : Cond.selects m_Mg_fail.1.cls m_Mg_fail.1 m_Mg_fail.1 ∈ aw_T := aw_inP 4 (by decide +kernel) rfl
theorem d_Mg_read_16 : decode m_Mg_read.2.1 16 = .ok (.i2l, 1) := by decide +kernel
theorem d_Mg_read_17 : decode m_Mg_read.2.1 17 = .ok (.lreturn, 1) := by decide +kernel
theorem d_Mg_fail_0 : decode m_Mg_fail.2.1 0 = .ok (.aload_n 0, 1) := by decide +kernel
theorem d_Mg_fail_1 : decode m_Mg_fail.2.1 1 = .ok (.iload_n 1, 1) := by decide +kernel
theorem d_Mg_fail_2 : decode m_Mg_fail.2.1 2 = .ok (.putfield 96, 3) := by decide +kernel
theorem d_Mg_fail_5 : decode m_Mg_fail.2.1 5 = .ok (.iconst (-1), 1) := by decide +kernel
theorem d_Mg_fail_6 : decode m_Mg_fail.2.1 6 = .ok (.ireturn, 1) := by decide +kernel
abbrev m_Mg_pour : aw_MI := (⟨"MaypoleGreen", "pour", "(IIIII)Z"⟩, prog_1_method_8_code, 8, some .boolean)
theorem k_Mg_pour : aw_K m_Mg_pour 5 := ⟨aw_in 545 (by decide +kernel) rfl, aw_in 1 (by decide +kernel) rfl, ⟨by decide, by decide, by decide +kernel⟩, by decide, by decide +kernel⟩
theorem d_Mg_pour_0 : decode m_Mg_pour.2.1 0 = .ok (.iload_n 1, 1) := by decide +kernel
theorem d_Mg_pour_1 : decode m_Mg_pour.2.1 1 = .ok (.invokestatic 106, 3) := by decide +kernel
theorem d_Mg_pour_4 : decode m_Mg_pour.2.1 4 = .ok (.ifCond .eq 24, 3) := by decide +kernel
theorem d_Mg_pour_28 : decode m_Mg_pour.2.1 28 = .ok (.aload_n 0, 1) := by decide +kernel
theorem d_Mg_pour_29 : decode m_Mg_pour.2.1 29 = .ok (.iconst 1, 1) := by decide +kernel
theorem d_Mg_pour_30 : decode m_Mg_pour.2.1 30 = .ok (.invokevirtual 114, 3) := by decide +kernel
theorem d_Mg_pour_33 : decode m_Mg_pour.2.1 33 = .ok (.ireturn, 1) := by decide +kernel
theorem d_Mg_pour_7 : decode m_Mg_pour.2.1 7 = .ok (.iload_n 3, 1) := by decide +kernel
theorem d_Mg_pour_8 : decode m_Mg_pour.2.1 8 = .ok (.invokestatic 106, 3) := by decide +kernel
theorem d_Mg_pour_11 : decode m_Mg_pour.2.1 11 = .ok (.ifCond .eq 17, 3) := by decide +kernel
theorem d_Mg_pour_14 : decode m_Mg_pour.2.1 14 = .ok (.iload_n 2, 1) := by decide +kernel
theorem d_Mg_pour_15 : decode m_Mg_pour.2.1 15 = .ok (.ifCond .lt 13, 3) := by decide +kernel
theorem d_Mg_pour_18 : decode m_Mg_pour.2.1 18 = .ok (.iload 4, 2) := by decide +kernel
theorem d_Mg_pour_20 : decode m_Mg_pour.2.1 20 = .ok (.ifCond .lt 8, 3) := by decide +kernel
theorem d_Mg_pour_23 : decode m_Mg_pour.2.1 23 = .ok (.iload 5, 2) := by decide +kernel
theorem d_Mg_pour_25 : decode m_Mg_pour.2.1 25 = .ok (.ifCond .ge 9, 3) := by decide +kernel
theorem d_Mg_pour_34 : decode m_Mg_pour.2.1 34 = .ok (.aload_n 0, 1) := by decide +kernel
theorem d_Mg_pour_35 : decode m_Mg_pour.2.1 35 = .ok (.getfield 11, 3) := by decide +kernel
theorem d_Mg_pour_38 : decode m_Mg_pour.2.1 38 = .ok (.iload_n 1, 1) := by decide +kernel
theorem d_Mg_pour_39 : decode m_Mg_pour.2.1 39 = .ok (.aaload, 1) := by decide +kernel
theorem d_Mg_pour_40 : decode m_Mg_pour.2.1 40 = .ok (.astore 6, 2) := by decide +kernel
theorem d_Mg_pour_42 : decode m_Mg_pour.2.1 42 = .ok (.aload_n 0, 1) := by decide +kernel
theorem d_Mg_pour_43 : decode m_Mg_pour.2.1 43 = .ok (.getfield 11, 3) := by decide +kernel
theorem d_Mg_pour_46 : decode m_Mg_pour.2.1 46 = .ok (.iload_n 3, 1) := by decide +kernel
theorem d_Mg_pour_47 : decode m_Mg_pour.2.1 47 = .ok (.aaload, 1) := by decide +kernel
theorem d_Mg_pour_48 : decode m_Mg_pour.2.1 48 = .ok (.astore 7, 2) := by decide +kernel
theorem d_Mg_pour_50 : decode m_Mg_pour.2.1 50 = .ok (.aload 6, 2) := by decide +kernel
theorem d_Mg_pour_52 : decode m_Mg_pour.2.1 52 = .ok (.getfield 141, 3) := by decide +kernel
theorem d_Mg_pour_55 : decode m_Mg_pour.2.1 55 = .ok (.ifCond .eq 11, 3) := by decide +kernel
theorem d_Mg_pour_66 : decode m_Mg_pour.2.1 66 = .ok (.aload_n 0, 1) := by decide +kernel
theorem d_Mg_pour_67 : decode m_Mg_pour.2.1 67 = .ok (.iconst 2, 1) := by decide +kernel
theorem d_Mg_pour_68 : decode m_Mg_pour.2.1 68 = .ok (.invokevirtual 114, 3) := by decide +kernel
theorem d_Mg_pour_71 : decode m_Mg_pour.2.1 71 = .ok (.ireturn, 1) := by decide +kernel
theorem d_Mg_pour_58 : decode m_Mg_pour.2.1 58 = .ok (.aload 7, 2) := by decide +kernel
theorem d_Mg_pour_60 : decode m_Mg_pour.2.1 60 = .ok (.getfield 141, 3) := by decide +kernel
theorem d_Mg_pour_63 : decode m_Mg_pour.2.1 63 = .ok (.ifCond .ne 9, 3) := by decide +kernel
theorem d_Mg_pour_72 : decode m_Mg_pour.2.1 72 = .ok (.aload 6, 2) := by decide +kernel
theorem d_Mg_pour_74 : decode m_Mg_pour.2.1 74 = .ok (.getfield 145, 3) := by decide +kernel
theorem f_Mg_145 : aw_F "MaypoleGreen" 145 1 2 false := ⟨cR1, cT1, 4, fun k => cY1.getD k .int, rfl, ci1, cy1, cn1, rfl, by decide, aw_in 43 (by decide +kernel) rfl, rfl, rfl, rfl⟩
theorem d_Mg_pour_77 : decode m_Mg_pour.2.1 77 = .ok (.aload 7, 2) := by decide +kernel
theorem d_Mg_pour_79 : decode m_Mg_pour.2.1 79 = .ok (.getfield 145, 3) := by decide +kernel
theorem d_Mg_pour_82 : decode m_Mg_pour.2.1 82 = .ok (.if_icmp .eq 10, 3) := by decide +kernel
theorem d_Mg_pour_92 : decode m_Mg_pour.2.1 92 = .ok (.aload 6, 2) := by decide +kernel
theorem d_Mg_pour_94 : decode m_Mg_pour.2.1 94 = .ok (.iload_n 2, 1) := by decide +kernel
theorem d_Mg_pour_95 : decode m_Mg_pour.2.1 95 = .ok (.iload 5, 2) := by decide +kernel
theorem d_Mg_pour_97 : decode m_Mg_pour.2.1 97 = .ok (.invokevirtual 148, 3) := by decide +kernel
theorem lk_Mg_148 : Cond.methodLink "MaypoleGreen" 148 m_Tr_hasRoom.1 ∈ aw_T := aw_in 546 (by decide +kernel) rfl
theorem in_Tr_hasRoom : Cond.instanceMethod m_Tr_hasRoom.1 ∈ aw_T := aw_in 547 (by decide +kernel) rfl
theorem se_Tr_hasRoom : Cond.selects m_Tr_hasRoom.1.cls m_Tr_hasRoom.1 m_Tr_hasRoom.1 ∈ aw_T := aw_in 548 (by decide +kernel) rfl
theorem d_Mg_pour_100 : decode m_Mg_pour.2.1 100 = .ok (.ifCond .eq 15, 3) := by decide +kernel
theorem d_Mg_pour_115 : decode m_Mg_pour.2.1 115 = .ok (.aload_n 0, 1) := by decide +kernel
theorem d_Mg_pour_116 : decode m_Mg_pour.2.1 116 = .ok (.iconst 3, 1) := by decide +kernel
theorem d_Mg_pour_117 : decode m_Mg_pour.2.1 117 = .ok (.invokevirtual 114, 3) := by decide +kernel
theorem d_Mg_pour_120 : decode m_Mg_pour.2.1 120 = .ok (.ireturn, 1) := by decide +kernel
theorem d_Mg_pour_103 : decode m_Mg_pour.2.1 103 = .ok (.aload 7, 2) := by decide +kernel
theorem d_Mg_pour_105 : decode m_Mg_pour.2.1 105 = .ok (.iload 4, 2) := by decide +kernel
theorem d_Mg_pour_107 : decode m_Mg_pour.2.1 107 = .ok (.iload 5, 2) := by decide +kernel
theorem d_Mg_pour_109 : decode m_Mg_pour.2.1 109 = .ok (.invokevirtual 148, 3) := by decide +kernel
theorem d_Mg_pour_112 : decode m_Mg_pour.2.1 112 = .ok (.ifCond .ne 9, 3) := by decide +kernel
theorem d_Mg_pour_121 : decode m_Mg_pour.2.1 121 = .ok (.aload 6, 2) := by decide +kernel
theorem d_Mg_pour_123 : decode m_Mg_pour.2.1 123 = .ok (.getfield 137, 3) := by decide +kernel
theorem d_Mg_pour_126 : decode m_Mg_pour.2.1 126 = .ok (.iload_n 2, 1) := by decide +kernel
theorem d_Mg_pour_127 : decode m_Mg_pour.2.1 127 = .ok (.aload 7, 2) := by decide +kernel
theorem d_Mg_pour_129 : decode m_Mg_pour.2.1 129 = .ok (.getfield 137, 3) := by decide +kernel
theorem d_Mg_pour_132 : decode m_Mg_pour.2.1 132 = .ok (.iload 4, 2) := by decide +kernel
theorem d_Mg_pour_134 : decode m_Mg_pour.2.1 134 = .ok (.iload 5, 2) := by decide +kernel
theorem d_Mg_pour_136 : decode m_Mg_pour.2.1 136 = .ok (.invokestatic 152, 3) := by decide +kernel
theorem ck_Mg_152 : Cond.methodLink "MaypoleGreen" 152 arraycopyName ∈ aw_T := aw_in 550 (by decide +kernel) rfl
theorem d_Mg_pour_139 : decode m_Mg_pour.2.1 139 = .ok (.aload_n 0, 1) := by decide +kernel
theorem d_Mg_pour_140 : decode m_Mg_pour.2.1 140 = .ok (.invokevirtual 121, 3) := by decide +kernel
theorem d_Mg_pour_143 : decode m_Mg_pour.2.1 143 = .ok (.ireturn, 1) := by decide +kernel
theorem d_Mg_pour_85 : decode m_Mg_pour.2.1 85 = .ok (.aload_n 0, 1) := by decide +kernel
theorem d_Mg_pour_86 : decode m_Mg_pour.2.1 86 = .ok (.bipush 8, 2) := by decide +kernel
theorem d_Mg_pour_88 : decode m_Mg_pour.2.1 88 = .ok (.invokevirtual 114, 3) := by decide +kernel
theorem d_Mg_pour_91 : decode m_Mg_pour.2.1 91 = .ok (.ireturn, 1) := by decide +kernel
abbrev m_Mg_feed : aw_MI := (⟨"MaypoleGreen", "feed", "(IIIII)I"⟩, prog_1_method_9_code, 6, some .int)
theorem k_Mg_feed : aw_K m_Mg_feed 5 := ⟨aw_in 556 (by decide +kernel) rfl, aw_in 1 (by decide +kernel) rfl, ⟨by decide, by decide, by decide +kernel⟩, by decide, by decide +kernel⟩
theorem d_Mg_feed_0 : decode m_Mg_feed.2.1 0 = .ok (.aload_n 0, 1) := by decide +kernel
theorem d_Mg_feed_1 : decode m_Mg_feed.2.1 1 = .ok (.getfield 158, 3) := by decide +kernel
theorem f_Mg_158 : aw_F "MaypoleGreen" 158 0 2 false := ⟨cR0, cT0, 19, fun k => cY0.getD k .int, rfl, ci0, cy0, cn0, rfl, by decide, aw_in 425 (by decide +kernel) rfl, rfl, rfl, rfl⟩
theorem d_Mg_feed_4 : decode m_Mg_feed.2.1 4 = .ok (.bipush 20, 2) := by decide +kernel
theorem d_Mg_feed_6 : decode m_Mg_feed.2.1 6 = .ok (.iadd, 1) := by decide +kernel
theorem d_Mg_feed_7 : decode m_Mg_feed.2.1 7 = .ok (.sipush 900, 3) := by decide +kernel
theorem d_Mg_feed_10 : decode m_Mg_feed.2.1 10 = .ok (.if_icmp .le 5, 3) := by decide +kernel
theorem d_Mg_feed_15 : decode m_Mg_feed.2.1 15 = .ok (.aload_n 0, 1) := by decide +kernel
theorem d_Mg_feed_16 : decode m_Mg_feed.2.1 16 = .ok (.iload_n 1, 1) := by decide +kernel
theorem d_Mg_feed_17 : decode m_Mg_feed.2.1 17 = .ok (.invokevirtual 161, 3) := by decide +kernel
abbrev m_Mg_tapeInt : aw_MI := (⟨"MaypoleGreen", "tapeInt", "(I)V"⟩, prog_1_method_61_code, 3, none)
theorem lk_Mg_161 : Cond.methodLink "MaypoleGreen" 161 m_Mg_tapeInt.1 ∈ aw_T := aw_in 557 (by decide +kernel) rfl
theorem k_Mg_tapeInt : aw_K m_Mg_tapeInt 1 := ⟨aw_in 560 (by decide +kernel) rfl, aw_in 1 (by decide +kernel) rfl, ⟨by decide, by decide, by decide +kernel⟩, by decide, by decide +kernel⟩
theorem in_Mg_tapeInt : Cond.instanceMethod m_Mg_tapeInt.1 ∈ aw_T := aw_in 559 (by decide +kernel) rfl
theorem se_Mg_tapeInt : Cond.selects m_Mg_tapeInt.1.cls m_Mg_tapeInt.1 m_Mg_tapeInt.1 ∈ aw_T := aw_inP 5 (by decide +kernel) rfl
theorem d_Mg_feed_20 : decode m_Mg_feed.2.1 20 = .ok (.aload_n 0, 1) := by decide +kernel
theorem d_Mg_feed_21 : decode m_Mg_feed.2.1 21 = .ok (.iload_n 2, 1) := by decide +kernel
theorem d_Mg_feed_22 : decode m_Mg_feed.2.1 22 = .ok (.invokevirtual 161, 3) := by decide +kernel
theorem d_Mg_feed_25 : decode m_Mg_feed.2.1 25 = .ok (.aload_n 0, 1) := by decide +kernel
theorem d_Mg_feed_26 : decode m_Mg_feed.2.1 26 = .ok (.iload_n 3, 1) := by decide +kernel
theorem d_Mg_feed_27 : decode m_Mg_feed.2.1 27 = .ok (.invokevirtual 161, 3) := by decide +kernel
theorem d_Mg_feed_30 : decode m_Mg_feed.2.1 30 = .ok (.aload_n 0, 1) := by decide +kernel
theorem d_Mg_feed_31 : decode m_Mg_feed.2.1 31 = .ok (.iload 4, 2) := by decide +kernel
theorem d_Mg_feed_33 : decode m_Mg_feed.2.1 33 = .ok (.invokevirtual 161, 3) := by decide +kernel
theorem d_Mg_feed_36 : decode m_Mg_feed.2.1 36 = .ok (.aload_n 0, 1) := by decide +kernel
theorem d_Mg_feed_37 : decode m_Mg_feed.2.1 37 = .ok (.iload 5, 2) := by decide +kernel
theorem d_Mg_feed_39 : decode m_Mg_feed.2.1 39 = .ok (.invokevirtual 161, 3) := by decide +kernel
theorem d_Mg_feed_42 : decode m_Mg_feed.2.1 42 = .ok (.aload_n 0, 1) := by decide +kernel
theorem d_Mg_feed_43 : decode m_Mg_feed.2.1 43 = .ok (.getfield 158, 3) := by decide +kernel
theorem d_Mg_feed_46 : decode m_Mg_feed.2.1 46 = .ok (.ireturn, 1) := by decide +kernel
theorem d_Mg_feed_13 : decode m_Mg_feed.2.1 13 = .ok (.iconst (-1), 1) := by decide +kernel
theorem d_Mg_feed_14 : decode m_Mg_feed.2.1 14 = .ok (.ireturn, 1) := by decide +kernel
theorem d_Mg_tapeInt_0 : decode m_Mg_tapeInt.2.1 0 = .ok (.bipush 24, 2) := by decide +kernel
theorem d_Mg_tapeInt_2 : decode m_Mg_tapeInt.2.1 2 = .ok (.istore_n 2, 1) := by decide +kernel
theorem d_Mg_tapeInt_3 : decode m_Mg_tapeInt.2.1 3 = .ok (.iload_n 2, 1) := by decide +kernel
theorem d_Mg_tapeInt_4 : decode m_Mg_tapeInt.2.1 4 = .ok (.ifCond .lt 42, 3) := by decide +kernel
theorem d_Mg_tapeInt_46 : decode m_Mg_tapeInt.2.1 46 = .ok (.return_, 1) := by decide +kernel
theorem d_Mg_tapeInt_7 : decode m_Mg_tapeInt.2.1 7 = .ok (.aload_n 0, 1) := by decide +kernel
theorem d_Mg_tapeInt_8 : decode m_Mg_tapeInt.2.1 8 = .ok (.getfield 158, 3) := by decide +kernel
theorem d_Mg_tapeInt_11 : decode m_Mg_tapeInt.2.1 11 = .ok (.sipush 900, 3) := by decide +kernel
theorem d_Mg_tapeInt_14 : decode m_Mg_tapeInt.2.1 14 = .ok (.if_icmp .ge 26, 3) := by decide +kernel
theorem d_Mg_tapeInt_40 : decode m_Mg_tapeInt.2.1 40 = .ok (.iinc 2 (-8), 3) := by decide +kernel
theorem d_Mg_tapeInt_43 : decode m_Mg_tapeInt.2.1 43 = .ok (.goto (-40), 3) := by decide +kernel
theorem d_Mg_tapeInt_17 : decode m_Mg_tapeInt.2.1 17 = .ok (.aload_n 0, 1) := by decide +kernel
theorem d_Mg_tapeInt_18 : decode m_Mg_tapeInt.2.1 18 = .ok (.getfield 16, 3) := by decide +kernel
theorem f_Mg_16 : aw_F "MaypoleGreen" 16 0 1 true := ⟨cR0, cT0, 19, fun k => cY0.getD k .int, rfl, ci0, cy0, cn0, rfl, by decide, aw_in 424 (by decide +kernel) rfl, rfl, rfl, rfl⟩
theorem d_Mg_tapeInt_21 : decode m_Mg_tapeInt.2.1 21 = .ok (.aload_n 0, 1) := by decide +kernel
theorem d_Mg_tapeInt_22 : decode m_Mg_tapeInt.2.1 22 = .ok (.getfield 158, 3) := by decide +kernel
theorem d_Mg_tapeInt_25 : decode m_Mg_tapeInt.2.1 25 = .ok (.iload_n 1, 1) := by decide +kernel
theorem d_Mg_tapeInt_26 : decode m_Mg_tapeInt.2.1 26 = .ok (.iload_n 2, 1) := by decide +kernel
theorem d_Mg_tapeInt_27 : decode m_Mg_tapeInt.2.1 27 = .ok (.ishr, 1) := by decide +kernel
theorem d_Mg_tapeInt_28 : decode m_Mg_tapeInt.2.1 28 = .ok (.i2b, 1) := by decide +kernel
theorem d_Mg_tapeInt_29 : decode m_Mg_tapeInt.2.1 29 = .ok (.bastore, 1) := by decide +kernel
theorem d_Mg_tapeInt_30 : decode m_Mg_tapeInt.2.1 30 = .ok (.aload_n 0, 1) := by decide +kernel
theorem d_Mg_tapeInt_31 : decode m_Mg_tapeInt.2.1 31 = .ok (.dup, 1) := by decide +kernel
theorem d_Mg_tapeInt_32 : decode m_Mg_tapeInt.2.1 32 = .ok (.getfield 158, 3) := by decide +kernel
theorem d_Mg_tapeInt_35 : decode m_Mg_tapeInt.2.1 35 = .ok (.iconst 1, 1) := by decide +kernel
theorem d_Mg_tapeInt_36 : decode m_Mg_tapeInt.2.1 36 = .ok (.iadd, 1) := by decide +kernel
theorem d_Mg_tapeInt_37 : decode m_Mg_tapeInt.2.1 37 = .ok (.putfield 158, 3) := by decide +kernel
abbrev m_Mg_green : aw_MI := (⟨"MaypoleGreen", "green", "(I)I"⟩, prog_1_method_10_code, 3, some .int)
theorem k_Mg_green : aw_K m_Mg_green 1 := ⟨aw_in 564 (by decide +kernel) rfl, aw_in 1 (by decide +kernel) rfl, ⟨by decide, by decide, by decide +kernel⟩, by decide, by decide +kernel⟩
theorem d_Mg_green_0 : decode m_Mg_green.2.1 0 = .ok (.iload_n 1, 1) := by decide +kernel
theorem d_Mg_green_1 : decode m_Mg_green.2.1 1 = .ok (.iconst 0, 1) := by decide +kernel
theorem d_Mg_green_2 : decode m_Mg_green.2.1 2 = .ok (.aload_n 0, 1) := by decide +kernel
theorem d_Mg_green_3 : decode m_Mg_green.2.1 3 = .ok (.getfield 158, 3) := by decide +kernel
theorem d_Mg_green_6 : decode m_Mg_green.2.1 6 = .ok (.invokestatic 110, 3) := by decide +kernel
theorem d_Mg_green_9 : decode m_Mg_green.2.1 9 = .ok (.ifCond .ne 9, 3) := by decide +kernel
theorem d_Mg_green_18 : decode m_Mg_green.2.1 18 = .ok (.aload_n 0, 1) := by decide +kernel
theorem d_Mg_green_19 : decode m_Mg_green.2.1 19 = .ok (.getfield 51, 3) := by decide +kernel
theorem f_Mg_51 : aw_F "MaypoleGreen" 51 0 11 true := ⟨cR0, cT0, 19, fun k => cY0.getD k .int, rfl, ci0, cy0, cn0, rfl, by decide, aw_in 434 (by decide +kernel) rfl, rfl, rfl, rfl⟩
theorem d_Mg_green_22 : decode m_Mg_green.2.1 22 = .ok (.aload_n 0, 1) := by decide +kernel
theorem d_Mg_green_23 : decode m_Mg_green.2.1 23 = .ok (.getfield 16, 3) := by decide +kernel
theorem d_Mg_green_26 : decode m_Mg_green.2.1 26 = .ok (.iload_n 1, 1) := by decide +kernel
theorem d_Mg_green_27 : decode m_Mg_green.2.1 27 = .ok (.aload_n 0, 1) := by decide +kernel
theorem d_Mg_green_28 : decode m_Mg_green.2.1 28 = .ok (.getfield 34, 3) := by decide +kernel
theorem f_Mg_34 : aw_F "MaypoleGreen" 34 0 7 false := ⟨cR0, cT0, 19, fun k => cY0.getD k .int, rfl, ci0, cy0, cn0, rfl, by decide, aw_in 430 (by decide +kernel) rfl, rfl, rfl, rfl⟩
theorem d_Mg_green_31 : decode m_Mg_green.2.1 31 = .ok (.invokevirtual 164, 3) := by decide +kernel
theorem lk_Mg_164 : Cond.methodLink "MaypoleGreen" 164 m_Re_readGreen.1 ∈ aw_T := aw_in 565 (by decide +kernel) rfl
theorem in_Re_readGreen : Cond.instanceMethod m_Re_readGreen.1 ∈ aw_T := aw_in 566 (by decide +kernel) rfl
theorem se_Re_readGreen : Cond.selects m_Re_readGreen.1.cls m_Re_readGreen.1 m_Re_readGreen.1 ∈ aw_T := aw_in 567 (by decide +kernel) rfl
theorem d_Mg_green_34 : decode m_Mg_green.2.1 34 = .ok (.aload_n 0, 1) := by decide +kernel
theorem d_Mg_green_35 : decode m_Mg_green.2.1 35 = .ok (.invokevirtual 168, 3) := by decide +kernel
abbrev m_Mg_closeText : aw_MI := (⟨"MaypoleGreen", "closeText", "()Z"⟩, prog_1_method_62_code, 1, some .boolean)
theorem lk_Mg_168 : Cond.methodLink "MaypoleGreen" 168 m_Mg_closeText.1 ∈ aw_T := aw_in 722 (by decide +kernel) rfl
theorem k_Mg_closeText : aw_K m_Mg_closeText 0 := ⟨aw_in 725 (by decide +kernel) rfl, aw_in 1 (by decide +kernel) rfl, ⟨by decide, by decide, by decide +kernel⟩, by decide, by decide +kernel⟩
theorem in_Mg_closeText : Cond.instanceMethod m_Mg_closeText.1 ∈ aw_T := aw_in 724 (by decide +kernel) rfl
theorem se_Mg_closeText : Cond.selects m_Mg_closeText.1.cls m_Mg_closeText.1 m_Mg_closeText.1 ∈ aw_T := aw_inP 18 (by decide +kernel) rfl
theorem d_Mg_green_38 : decode m_Mg_green.2.1 38 = .ok (.ifCond .ne 10, 3) := by decide +kernel
theorem d_Mg_green_48 : decode m_Mg_green.2.1 48 = .ok (.aload_n 0, 1) := by decide +kernel
theorem d_Mg_green_49 : decode m_Mg_green.2.1 49 = .ok (.getfield 30, 3) := by decide +kernel
theorem f_Mg_30 : aw_F "MaypoleGreen" 30 0 6 false := ⟨cR0, cT0, 19, fun k => cY0.getD k .int, rfl, ci0, cy0, cn0, rfl, by decide, aw_in 429 (by decide +kernel) rfl, rfl, rfl, rfl⟩
theorem d_Mg_green_52 : decode m_Mg_green.2.1 52 = .ok (.astore_n 2, 1) := by decide +kernel
theorem d_Mg_green_53 : decode m_Mg_green.2.1 53 = .ok (.aload_n 0, 1) := by decide +kernel
theorem d_Mg_green_54 : decode m_Mg_green.2.1 54 = .ok (.aload_n 0, 1) := by decide +kernel
theorem d_Mg_green_55 : decode m_Mg_green.2.1 55 = .ok (.getfield 34, 3) := by decide +kernel
theorem d_Mg_green_58 : decode m_Mg_green.2.1 58 = .ok (.putfield 30, 3) := by decide +kernel
theorem d_Mg_green_61 : decode m_Mg_green.2.1 61 = .ok (.aload_n 0, 1) := by decide +kernel
theorem d_Mg_green_62 : decode m_Mg_green.2.1 62 = .ok (.aload_n 2, 1) := by decide +kernel
theorem d_Mg_green_63 : decode m_Mg_green.2.1 63 = .ok (.putfield 34, 3) := by decide +kernel
theorem d_Mg_green_66 : decode m_Mg_green.2.1 66 = .ok (.aload_n 0, 1) := by decide +kernel
theorem d_Mg_green_67 : decode m_Mg_green.2.1 67 = .ok (.aload_n 0, 1) := by decide +kernel
theorem d_Mg_green_68 : decode m_Mg_green.2.1 68 = .ok (.getfield 30, 3) := by decide +kernel
theorem d_Mg_green_71 : decode m_Mg_green.2.1 71 = .ok (.getfield 171, 3) := by decide +kernel
theorem f_Mg_171 : aw_F "MaypoleGreen" 171 2 0 false := ⟨cR2, cT2, 13, fun k => cY2.getD k .int, rfl, ci2, cy2, cn2, rfl, by decide, aw_in 127 (by decide +kernel) rfl, rfl, rfl, rfl⟩
theorem d_Mg_green_74 : decode m_Mg_green.2.1 74 = .ok (.invokevirtual 174, 3) := by decide +kernel
abbrev m_Mg_give : aw_MI := (⟨"MaypoleGreen", "give", "(I)I"⟩, prog_1_method_48_code, 2, some .int)
theorem lk_Mg_174 : Cond.methodLink "MaypoleGreen" 174 m_Mg_give.1 ∈ aw_T := aw_in 726 (by decide +kernel) rfl
theorem k_Mg_give : aw_K m_Mg_give 1 := ⟨aw_in 729 (by decide +kernel) rfl, aw_in 1 (by decide +kernel) rfl, ⟨by decide, by decide, by decide +kernel⟩, by decide, by decide +kernel⟩
theorem in_Mg_give : Cond.instanceMethod m_Mg_give.1 ∈ aw_T := aw_in 728 (by decide +kernel) rfl
theorem se_Mg_give : Cond.selects m_Mg_give.1.cls m_Mg_give.1 m_Mg_give.1 ∈ aw_T := aw_inP 19 (by decide +kernel) rfl
theorem d_Mg_green_77 : decode m_Mg_green.2.1 77 = .ok (.ireturn, 1) := by decide +kernel
theorem d_Mg_green_41 : decode m_Mg_green.2.1 41 = .ok (.aload_n 0, 1) := by decide +kernel
theorem d_Mg_green_42 : decode m_Mg_green.2.1 42 = .ok (.bipush 9, 2) := by decide +kernel
theorem d_Mg_green_44 : decode m_Mg_green.2.1 44 = .ok (.invokevirtual 133, 3) := by decide +kernel
theorem d_Mg_green_47 : decode m_Mg_green.2.1 47 = .ok (.ireturn, 1) := by decide +kernel
theorem d_Mg_green_12 : decode m_Mg_green.2.1 12 = .ok (.aload_n 0, 1) := by decide +kernel
theorem d_Mg_green_13 : decode m_Mg_green.2.1 13 = .ok (.iconst 1, 1) := by decide +kernel
theorem d_Mg_green_14 : decode m_Mg_green.2.1 14 = .ok (.invokevirtual 133, 3) := by decide +kernel
theorem d_Mg_green_17 : decode m_Mg_green.2.1 17 = .ok (.ireturn, 1) := by decide +kernel
theorem d_Mg_closeText_0 : decode m_Mg_closeText.2.1 0 = .ok (.aload_n 0, 1) := by decide +kernel
theorem d_Mg_closeText_1 : decode m_Mg_closeText.2.1 1 = .ok (.iconst 0, 1) := by decide +kernel
theorem d_Mg_closeText_2 : decode m_Mg_closeText.2.1 2 = .ok (.putfield 158, 3) := by decide +kernel
theorem d_Mg_closeText_5 : decode m_Mg_closeText.2.1 5 = .ok (.aload_n 0, 1) := by decide +kernel
theorem d_Mg_closeText_6 : decode m_Mg_closeText.2.1 6 = .ok (.aload_n 0, 1) := by decide +kernel
theorem d_Mg_closeText_7 : decode m_Mg_closeText.2.1 7 = .ok (.getfield 51, 3) := by decide +kernel
theorem d_Mg_closeText_10 : decode m_Mg_closeText.2.1 10 = .ok (.getfield 394, 3) := by decide +kernel
theorem f_Mg_394 : aw_F "MaypoleGreen" 394 5 0 false := ⟨cR5, cT5, 10, fun k => cY5.getD k .int, rfl, ci5, cy5, cn5, rfl, by decide, aw_in 288 (by decide +kernel) rfl, rfl, rfl, rfl⟩
theorem d_Mg_closeText_13 : decode m_Mg_closeText.2.1 13 = .ok (.putfield 20, 3) := by decide +kernel
theorem f_Mg_20 : aw_F "MaypoleGreen" 20 0 4 false := ⟨cR0, cT0, 19, fun k => cY0.getD k .int, rfl, ci0, cy0, cn0, rfl, by decide, aw_in 427 (by decide +kernel) rfl, rfl, rfl, rfl⟩
theorem d_Mg_closeText_16 : decode m_Mg_closeText.2.1 16 = .ok (.aload_n 0, 1) := by decide +kernel
theorem d_Mg_closeText_17 : decode m_Mg_closeText.2.1 17 = .ok (.aload_n 0, 1) := by decide +kernel
theorem d_Mg_closeText_18 : decode m_Mg_closeText.2.1 18 = .ok (.getfield 51, 3) := by decide +kernel
theorem d_Mg_closeText_21 : decode m_Mg_closeText.2.1 21 = .ok (.getfield 395, 3) := by decide +kernel
theorem f_Mg_395 : aw_F "MaypoleGreen" 395 5 1 false := ⟨cR5, cT5, 10, fun k => cY5.getD k .int, rfl, ci5, cy5, cn5, rfl, by decide, aw_in 290 (by decide +kernel) rfl, rfl, rfl, rfl⟩
theorem d_Mg_closeText_24 : decode m_Mg_closeText.2.1 24 = .ok (.putfield 24, 3) := by decide +kernel
theorem f_Mg_24 : aw_F "MaypoleGreen" 24 0 5 false := ⟨cR0, cT0, 19, fun k => cY0.getD k .int, rfl, ci0, cy0, cn0, rfl, by decide, aw_in 428 (by decide +kernel) rfl, rfl, rfl, rfl⟩
theorem d_Mg_closeText_27 : decode m_Mg_closeText.2.1 27 = .ok (.aload_n 0, 1) := by decide +kernel
theorem d_Mg_closeText_28 : decode m_Mg_closeText.2.1 28 = .ok (.getfield 20, 3) := by decide +kernel
theorem d_Mg_closeText_31 : decode m_Mg_closeText.2.1 31 = .ok (.ifCond .ne 7, 3) := by decide +kernel
theorem d_Mg_closeText_38 : decode m_Mg_closeText.2.1 38 = .ok (.iconst 0, 1) := by decide +kernel
theorem d_Mg_closeText_39 : decode m_Mg_closeText.2.1 39 = .ok (.ireturn, 1) := by decide +kernel
theorem d_Mg_closeText_34 : decode m_Mg_closeText.2.1 34 = .ok (.iconst 1, 1) := by decide +kernel
theorem d_Mg_closeText_35 : decode m_Mg_closeText.2.1 35 = .ok (.goto 4, 3) := by decide +kernel
theorem d_Mg_give_0 : decode m_Mg_give.2.1 0 = .ok (.aload_n 0, 1) := by decide +kernel
theorem d_Mg_give_1 : decode m_Mg_give.2.1 1 = .ok (.iconst 0, 1) := by decide +kernel
theorem d_Mg_give_2 : decode m_Mg_give.2.1 2 = .ok (.putfield 96, 3) := by decide +kernel
theorem d_Mg_give_5 : decode m_Mg_give.2.1 5 = .ok (.iload_n 1, 1) := by decide +kernel
theorem d_Mg_give_6 : decode m_Mg_give.2.1 6 = .ok (.ireturn, 1) := by decide +kernel
abbrev m_Mg_feasts : aw_MI := (⟨"MaypoleGreen", "feasts", "(I)I"⟩, prog_1_method_11_code, 2, some .int)
theorem k_Mg_feasts : aw_K m_Mg_feasts 1 := ⟨aw_in 733 (by decide +kernel) rfl, aw_in 1 (by decide +kernel) rfl, ⟨by decide, by decide, by decide +kernel⟩, by decide, by decide +kernel⟩
theorem d_Mg_feasts_0 : decode m_Mg_feasts.2.1 0 = .ok (.iload_n 1, 1) := by decide +kernel
theorem d_Mg_feasts_1 : decode m_Mg_feasts.2.1 1 = .ok (.iconst 0, 1) := by decide +kernel
theorem d_Mg_feasts_2 : decode m_Mg_feasts.2.1 2 = .ok (.aload_n 0, 1) := by decide +kernel
theorem d_Mg_feasts_3 : decode m_Mg_feasts.2.1 3 = .ok (.getfield 158, 3) := by decide +kernel
theorem d_Mg_feasts_6 : decode m_Mg_feasts.2.1 6 = .ok (.invokestatic 110, 3) := by decide +kernel
theorem d_Mg_feasts_9 : decode m_Mg_feasts.2.1 9 = .ok (.ifCond .eq 10, 3) := by decide +kernel
theorem d_Mg_feasts_19 : decode m_Mg_feasts.2.1 19 = .ok (.aload_n 0, 1) := by decide +kernel
theorem d_Mg_feasts_20 : decode m_Mg_feasts.2.1 20 = .ok (.iconst 1, 1) := by decide +kernel
theorem d_Mg_feasts_21 : decode m_Mg_feasts.2.1 21 = .ok (.invokevirtual 133, 3) := by decide +kernel
theorem d_Mg_feasts_24 : decode m_Mg_feasts.2.1 24 = .ok (.ireturn, 1) := by decide +kernel
theorem d_Mg_feasts_12 : decode m_Mg_feasts.2.1 12 = .ok (.iload_n 1, 1) := by decide +kernel
theorem d_Mg_feasts_13 : decode m_Mg_feasts.2.1 13 = .ok (.sipush 300, 3) := by decide +kernel
theorem d_Mg_feasts_16 : decode m_Mg_feasts.2.1 16 = .ok (.if_icmp .le 9, 3) := by decide +kernel
theorem d_Mg_feasts_25 : decode m_Mg_feasts.2.1 25 = .ok (.aload_n 0, 1) := by decide +kernel
theorem d_Mg_feasts_26 : decode m_Mg_feasts.2.1 26 = .ok (.getfield 51, 3) := by decide +kernel
theorem d_Mg_feasts_29 : decode m_Mg_feasts.2.1 29 = .ok (.aload_n 0, 1) := by decide +kernel
theorem d_Mg_feasts_30 : decode m_Mg_feasts.2.1 30 = .ok (.getfield 16, 3) := by decide +kernel
theorem d_Mg_feasts_33 : decode m_Mg_feasts.2.1 33 = .ok (.iload_n 1, 1) := by decide +kernel
theorem d_Mg_feasts_34 : decode m_Mg_feasts.2.1 34 = .ok (.aload_n 0, 1) := by decide +kernel
theorem d_Mg_feasts_35 : decode m_Mg_feasts.2.1 35 = .ok (.getfield 30, 3) := by decide +kernel
theorem d_Mg_feasts_38 : decode m_Mg_feasts.2.1 38 = .ok (.aload_n 0, 1) := by decide +kernel
theorem d_Mg_feasts_39 : decode m_Mg_feasts.2.1 39 = .ok (.getfield 44, 3) := by decide +kernel
theorem f_Mg_44 : aw_F "MaypoleGreen" 44 0 10 true := ⟨cR0, cT0, 19, fun k => cY0.getD k .int, rfl, ci0, cy0, cn0, rfl, by decide, aw_in 433 (by decide +kernel) rfl, rfl, rfl, rfl⟩
theorem d_Mg_feasts_42 : decode m_Mg_feasts.2.1 42 = .ok (.invokevirtual 177, 3) := by decide +kernel
theorem lk_Mg_177 : Cond.methodLink "MaypoleGreen" 177 m_Re_readFeasts.1 ∈ aw_T := aw_in 734 (by decide +kernel) rfl
theorem in_Re_readFeasts : Cond.instanceMethod m_Re_readFeasts.1 ∈ aw_T := aw_in 735 (by decide +kernel) rfl
theorem se_Re_readFeasts : Cond.selects m_Re_readFeasts.1.cls m_Re_readFeasts.1 m_Re_readFeasts.1 ∈ aw_T := aw_in 736 (by decide +kernel) rfl
theorem d_Mg_feasts_45 : decode m_Mg_feasts.2.1 45 = .ok (.aload_n 0, 1) := by decide +kernel
theorem d_Mg_feasts_46 : decode m_Mg_feasts.2.1 46 = .ok (.invokevirtual 168, 3) := by decide +kernel
theorem d_Mg_feasts_49 : decode m_Mg_feasts.2.1 49 = .ok (.ifCond .ne 10, 3) := by decide +kernel
theorem d_Mg_feasts_59 : decode m_Mg_feasts.2.1 59 = .ok (.aload_n 0, 1) := by decide +kernel
theorem d_Mg_feasts_60 : decode m_Mg_feasts.2.1 60 = .ok (.getfield 30, 3) := by decide +kernel
theorem d_Mg_feasts_63 : decode m_Mg_feasts.2.1 63 = .ok (.getfield 181, 3) := by decide +kernel
theorem f_Mg_181 : aw_F "MaypoleGreen" 181 2 11 true := ⟨cR2, cT2, 13, fun k => cY2.getD k .int, rfl, ci2, cy2, cn2, rfl, by decide, aw_in 155 (by decide +kernel) rfl, rfl, rfl, rfl⟩
theorem d_Mg_feasts_66 : decode m_Mg_feasts.2.1 66 = .ok (.aload_n 0, 1) := by decide +kernel
theorem d_Mg_feasts_67 : decode m_Mg_feasts.2.1 67 = .ok (.getfield 44, 3) := by decide +kernel
theorem d_Mg_feasts_70 : decode m_Mg_feasts.2.1 70 = .ok (.invokevirtual 184, 3) := by decide +kernel
theorem lk_Mg_184 : Cond.methodLink "MaypoleGreen" 184 m_Fe_copyFrom.1 ∈ aw_T := aw_in 778 (by decide +kernel) rfl
theorem in_Fe_copyFrom : Cond.instanceMethod m_Fe_copyFrom.1 ∈ aw_T := aw_in 779 (by decide +kernel) rfl
theorem se_Fe_copyFrom : Cond.selects m_Fe_copyFrom.1.cls m_Fe_copyFrom.1 m_Fe_copyFrom.1 ∈ aw_T := aw_in 780 (by decide +kernel) rfl
theorem d_Mg_feasts_73 : decode m_Mg_feasts.2.1 73 = .ok (.aload_n 0, 1) := by decide +kernel
theorem d_Mg_feasts_74 : decode m_Mg_feasts.2.1 74 = .ok (.aload_n 0, 1) := by decide +kernel
theorem d_Mg_feasts_75 : decode m_Mg_feasts.2.1 75 = .ok (.getfield 30, 3) := by decide +kernel
theorem d_Mg_feasts_78 : decode m_Mg_feasts.2.1 78 = .ok (.getfield 181, 3) := by decide +kernel
theorem d_Mg_feasts_81 : decode m_Mg_feasts.2.1 81 = .ok (.getfield 188, 3) := by decide +kernel
theorem f_Mg_188 : aw_F "MaypoleGreen" 188 4 1 false := ⟨cR4, cT4, 7, fun k => cY4.getD k .int, rfl, ci4, cy4, cn4, rfl, by decide, aw_in 92 (by decide +kernel) rfl, rfl, rfl, rfl⟩
theorem d_Mg_feasts_84 : decode m_Mg_feasts.2.1 84 = .ok (.invokevirtual 174, 3) := by decide +kernel
theorem d_Mg_feasts_87 : decode m_Mg_feasts.2.1 87 = .ok (.ireturn, 1) := by decide +kernel
theorem d_Mg_feasts_52 : decode m_Mg_feasts.2.1 52 = .ok (.aload_n 0, 1) := by decide +kernel
theorem d_Mg_feasts_53 : decode m_Mg_feasts.2.1 53 = .ok (.bipush 9, 2) := by decide +kernel
theorem d_Mg_feasts_55 : decode m_Mg_feasts.2.1 55 = .ok (.invokevirtual 133, 3) := by decide +kernel
theorem d_Mg_feasts_58 : decode m_Mg_feasts.2.1 58 = .ok (.ireturn, 1) := by decide +kernel
abbrev m_Mg_fault : aw_MI := (⟨"MaypoleGreen", "fault", "(I)I"⟩, prog_1_method_12_code, 2, some .int)
theorem k_Mg_fault : aw_K m_Mg_fault 1 := ⟨aw_in 786 (by decide +kernel) rfl, aw_in 1 (by decide +kernel) rfl, ⟨by decide, by decide, by decide +kernel⟩, by decide, by decide +kernel⟩
theorem d_Mg_fault_0 : decode m_Mg_fault.2.1 0 = .ok (.iload_n 1, 1) := by decide +kernel
theorem d_Mg_fault_1 : decode m_Mg_fault.2.1 1 = .ok (.ifCond .ne 8, 3) := by decide +kernel
theorem d_Mg_fault_9 : decode m_Mg_fault.2.1 9 = .ok (.iload_n 1, 1) := by decide +kernel
theorem d_Mg_fault_10 : decode m_Mg_fault.2.1 10 = .ok (.iconst 1, 1) := by decide +kernel
theorem d_Mg_fault_11 : decode m_Mg_fault.2.1 11 = .ok (.if_icmp .ne 10, 3) := by decide +kernel
theorem d_Mg_fault_21 : decode m_Mg_fault.2.1 21 = .ok (.iconst (-1), 1) := by decide +kernel
theorem d_Mg_fault_22 : decode m_Mg_fault.2.1 22 = .ok (.ireturn, 1) := by decide +kernel
theorem d_Mg_fault_14 : decode m_Mg_fault.2.1 14 = .ok (.aload_n 0, 1) := by decide +kernel
theorem d_Mg_fault_15 : decode m_Mg_fault.2.1 15 = .ok (.getfield 24, 3) := by decide +kernel
theorem d_Mg_fault_18 : decode m_Mg_fault.2.1 18 = .ok (.goto 4, 3) := by decide +kernel
theorem d_Mg_fault_4 : decode m_Mg_fault.2.1 4 = .ok (.aload_n 0, 1) := by decide +kernel
theorem d_Mg_fault_5 : decode m_Mg_fault.2.1 5 = .ok (.getfield 20, 3) := by decide +kernel
theorem d_Mg_fault_8 : decode m_Mg_fault.2.1 8 = .ok (.ireturn, 1) := by decide +kernel
abbrev m_Mg_told : aw_MI := (⟨"MaypoleGreen", "told", "(I)I"⟩, prog_1_method_13_code, 2, some .int)
theorem k_Mg_told : aw_K m_Mg_told 1 := ⟨aw_in 790 (by decide +kernel) rfl, aw_in 1 (by decide +kernel) rfl, ⟨by decide, by decide, by decide +kernel⟩, by decide, by decide +kernel⟩
theorem d_Mg_told_0 : decode m_Mg_told.2.1 0 = .ok (.iload_n 1, 1) := by decide +kernel
theorem d_Mg_told_1 : decode m_Mg_told.2.1 1 = .ok (.tableswitch 186 0 9 #[55, 67, 79, 94, 106, 118, 130, 150, 162, 174], 55) := by decide +kernel
theorem d_Mg_told_187 : decode m_Mg_told.2.1 187 = .ok (.aload_n 0, 1) := by decide +kernel
theorem d_Mg_told_188 : decode m_Mg_told.2.1 188 = .ok (.iconst 1, 1) := by decide +kernel
theorem d_Mg_told_189 : decode m_Mg_told.2.1 189 = .ok (.invokevirtual 133, 3) := by decide +kernel
theorem d_Mg_told_192 : decode m_Mg_told.2.1 192 = .ok (.ireturn, 1) := by decide +kernel
theorem d_Mg_told_56 : decode m_Mg_told.2.1 56 = .ok (.aload_n 0, 1) := by decide +kernel
theorem d_Mg_told_57 : decode m_Mg_told.2.1 57 = .ok (.aload_n 0, 1) := by decide +kernel
theorem d_Mg_told_58 : decode m_Mg_told.2.1 58 = .ok (.getfield 30, 3) := by decide +kernel
theorem d_Mg_told_61 : decode m_Mg_told.2.1 61 = .ok (.getfield 171, 3) := by decide +kernel
theorem d_Mg_told_64 : decode m_Mg_told.2.1 64 = .ok (.invokevirtual 174, 3) := by decide +kernel
theorem d_Mg_told_67 : decode m_Mg_told.2.1 67 = .ok (.ireturn, 1) := by decide +kernel
theorem d_Mg_told_68 : decode m_Mg_told.2.1 68 = .ok (.aload_n 0, 1) := by decide +kernel
theorem d_Mg_told_69 : decode m_Mg_told.2.1 69 = .ok (.aload_n 0, 1) := by decide +kernel
theorem d_Mg_told_70 : decode m_Mg_told.2.1 70 = .ok (.getfield 30, 3) := by decide +kernel
theorem d_Mg_told_73 : decode m_Mg_told.2.1 73 = .ok (.invokevirtual 191, 3) := by decide +kernel
theorem lk_Mg_191 : Cond.methodLink "MaypoleGreen" 191 m_Gr_gaps.1 ∈ aw_T := aw_in 791 (by decide +kernel) rfl
theorem d_Mg_told_76 : decode m_Mg_told.2.1 76 = .ok (.invokevirtual 174, 3) := by decide +kernel
theorem d_Mg_told_79 : decode m_Mg_told.2.1 79 = .ok (.ireturn, 1) := by decide +kernel
theorem d_Mg_told_80 : decode m_Mg_told.2.1 80 = .ok (.aload_n 0, 1) := by decide +kernel
theorem d_Mg_told_81 : decode m_Mg_told.2.1 81 = .ok (.aload_n 0, 1) := by decide +kernel
theorem d_Mg_told_82 : decode m_Mg_told.2.1 82 = .ok (.getfield 30, 3) := by decide +kernel
theorem d_Mg_told_85 : decode m_Mg_told.2.1 85 = .ok (.getfield 195, 3) := by decide +kernel
theorem f_Mg_195 : aw_F "MaypoleGreen" 195 2 10 true := ⟨cR2, cT2, 13, fun k => cY2.getD k .int, rfl, ci2, cy2, cn2, rfl, by decide, aw_in 153 (by decide +kernel) rfl, rfl, rfl, rfl⟩
theorem d_Mg_told_88 : decode m_Mg_told.2.1 88 = .ok (.getfield 198, 3) := by decide +kernel
theorem f_Mg_198 : aw_F "MaypoleGreen" 198 3 1 false := ⟨cR3, cT3, 2, fun k => cY3.getD k .int, rfl, ci3, cy3, cn3, rfl, by decide, aw_in 73 (by decide +kernel) rfl, rfl, rfl, rfl⟩
theorem d_Mg_told_91 : decode m_Mg_told.2.1 91 = .ok (.invokevirtual 174, 3) := by decide +kernel
theorem d_Mg_told_94 : decode m_Mg_told.2.1 94 = .ok (.ireturn, 1) := by decide +kernel
theorem d_Mg_told_95 : decode m_Mg_told.2.1 95 = .ok (.aload_n 0, 1) := by decide +kernel
theorem d_Mg_told_96 : decode m_Mg_told.2.1 96 = .ok (.aload_n 0, 1) := by decide +kernel
theorem d_Mg_told_97 : decode m_Mg_told.2.1 97 = .ok (.getfield 30, 3) := by decide +kernel
theorem d_Mg_told_100 : decode m_Mg_told.2.1 100 = .ok (.getfield 201, 3) := by decide +kernel
theorem f_Mg_201 : aw_F "MaypoleGreen" 201 2 1 false := ⟨cR2, cT2, 13, fun k => cY2.getD k .int, rfl, ci2, cy2, cn2, rfl, by decide, aw_in 131 (by decide +kernel) rfl, rfl, rfl, rfl⟩
theorem d_Mg_told_103 : decode m_Mg_told.2.1 103 = .ok (.invokevirtual 174, 3) := by decide +kernel
theorem d_Mg_told_106 : decode m_Mg_told.2.1 106 = .ok (.ireturn, 1) := by decide +kernel
theorem d_Mg_told_107 : decode m_Mg_told.2.1 107 = .ok (.aload_n 0, 1) := by decide +kernel
theorem d_Mg_told_108 : decode m_Mg_told.2.1 108 = .ok (.aload_n 0, 1) := by decide +kernel
theorem d_Mg_told_109 : decode m_Mg_told.2.1 109 = .ok (.getfield 30, 3) := by decide +kernel
theorem d_Mg_told_112 : decode m_Mg_told.2.1 112 = .ok (.getfield 204, 3) := by decide +kernel
theorem f_Mg_204 : aw_F "MaypoleGreen" 204 2 2 false := ⟨cR2, cT2, 13, fun k => cY2.getD k .int, rfl, ci2, cy2, cn2, rfl, by decide, aw_in 134 (by decide +kernel) rfl, rfl, rfl, rfl⟩
theorem d_Mg_told_115 : decode m_Mg_told.2.1 115 = .ok (.invokevirtual 174, 3) := by decide +kernel
theorem d_Mg_told_118 : decode m_Mg_told.2.1 118 = .ok (.ireturn, 1) := by decide +kernel
theorem d_Mg_told_119 : decode m_Mg_told.2.1 119 = .ok (.aload_n 0, 1) := by decide +kernel
theorem d_Mg_told_120 : decode m_Mg_told.2.1 120 = .ok (.aload_n 0, 1) := by decide +kernel
theorem d_Mg_told_121 : decode m_Mg_told.2.1 121 = .ok (.getfield 30, 3) := by decide +kernel
theorem d_Mg_told_124 : decode m_Mg_told.2.1 124 = .ok (.invokevirtual 207, 3) := by decide +kernel
theorem lk_Mg_207 : Cond.methodLink "MaypoleGreen" 207 m_Gr_greatestRow.1 ∈ aw_T := aw_in 792 (by decide +kernel) rfl
theorem in_Gr_greatestRow : Cond.instanceMethod m_Gr_greatestRow.1 ∈ aw_T := aw_in 793 (by decide +kernel) rfl
theorem se_Gr_greatestRow : Cond.selects m_Gr_greatestRow.1.cls m_Gr_greatestRow.1 m_Gr_greatestRow.1 ∈ aw_T := aw_in 794 (by decide +kernel) rfl
theorem d_Mg_told_127 : decode m_Mg_told.2.1 127 = .ok (.invokevirtual 174, 3) := by decide +kernel
theorem d_Mg_told_130 : decode m_Mg_told.2.1 130 = .ok (.ireturn, 1) := by decide +kernel
theorem d_Mg_told_131 : decode m_Mg_told.2.1 131 = .ok (.aload_n 0, 1) := by decide +kernel
theorem d_Mg_told_132 : decode m_Mg_told.2.1 132 = .ok (.aload_n 0, 1) := by decide +kernel
theorem d_Mg_told_133 : decode m_Mg_told.2.1 133 = .ok (.getfield 30, 3) := by decide +kernel
theorem d_Mg_told_136 : decode m_Mg_told.2.1 136 = .ok (.getfield 210, 3) := by decide +kernel
theorem f_Mg_210 : aw_F "MaypoleGreen" 210 2 3 false := ⟨cR2, cT2, 13, fun k => cY2.getD k .int, rfl, ci2, cy2, cn2, rfl, by decide, aw_in 136 (by decide +kernel) rfl, rfl, rfl, rfl⟩
theorem d_Mg_told_139 : decode m_Mg_told.2.1 139 = .ok (.aload_n 0, 1) := by decide +kernel
theorem d_Mg_told_140 : decode m_Mg_told.2.1 140 = .ok (.getfield 30, 3) := by decide +kernel
theorem d_Mg_told_143 : decode m_Mg_told.2.1 143 = .ok (.getfield 213, 3) := by decide +kernel
theorem f_Mg_213 : aw_F "MaypoleGreen" 213 2 4 false := ⟨cR2, cT2, 13, fun k => cY2.getD k .int, rfl, ci2, cy2, cn2, rfl, by decide, aw_in 138 (by decide +kernel) rfl, rfl, rfl, rfl⟩
theorem d_Mg_told_146 : decode m_Mg_told.2.1 146 = .ok (.iadd, 1) := by decide +kernel
theorem d_Mg_told_147 : decode m_Mg_told.2.1 147 = .ok (.invokevirtual 174, 3) := by decide +kernel
theorem d_Mg_told_150 : decode m_Mg_told.2.1 150 = .ok (.ireturn, 1) := by decide +kernel
theorem d_Mg_told_151 : decode m_Mg_told.2.1 151 = .ok (.aload_n 0, 1) := by decide +kernel
theorem d_Mg_told_152 : decode m_Mg_told.2.1 152 = .ok (.aload_n 0, 1) := by decide +kernel
theorem d_Mg_told_153 : decode m_Mg_told.2.1 153 = .ok (.getfield 30, 3) := by decide +kernel
theorem d_Mg_told_156 : decode m_Mg_told.2.1 156 = .ok (.invokevirtual 216, 3) := by decide +kernel
theorem lk_Mg_216 : Cond.methodLink "MaypoleGreen" 216 m_Gr_atHome.1 ∈ aw_T := aw_in 806 (by decide +kernel) rfl
theorem in_Gr_atHome : Cond.instanceMethod m_Gr_atHome.1 ∈ aw_T := aw_in 807 (by decide +kernel) rfl
theorem se_Gr_atHome : Cond.selects m_Gr_atHome.1.cls m_Gr_atHome.1 m_Gr_atHome.1 ∈ aw_T := aw_in 808 (by decide +kernel) rfl
theorem d_Mg_told_159 : decode m_Mg_told.2.1 159 = .ok (.invokevirtual 174, 3) := by decide +kernel
theorem d_Mg_told_162 : decode m_Mg_told.2.1 162 = .ok (.ireturn, 1) := by decide +kernel
theorem d_Mg_told_163 : decode m_Mg_told.2.1 163 = .ok (.aload_n 0, 1) := by decide +kernel
theorem d_Mg_told_164 : decode m_Mg_told.2.1 164 = .ok (.aload_n 0, 1) := by decide +kernel
theorem d_Mg_told_165 : decode m_Mg_told.2.1 165 = .ok (.getfield 30, 3) := by decide +kernel
theorem d_Mg_told_168 : decode m_Mg_told.2.1 168 = .ok (.invokevirtual 219, 3) := by decide +kernel
theorem lk_Mg_219 : Cond.methodLink "MaypoleGreen" 219 m_Gr_freeGaps.1 ∈ aw_T := aw_in 810 (by decide +kernel) rfl
theorem in_Gr_freeGaps : Cond.instanceMethod m_Gr_freeGaps.1 ∈ aw_T := aw_in 811 (by decide +kernel) rfl
theorem se_Gr_freeGaps : Cond.selects m_Gr_freeGaps.1.cls m_Gr_freeGaps.1 m_Gr_freeGaps.1 ∈ aw_T := aw_in 812 (by decide +kernel) rfl
theorem d_Mg_told_171 : decode m_Mg_told.2.1 171 = .ok (.invokevirtual 174, 3) := by decide +kernel
theorem d_Mg_told_174 : decode m_Mg_told.2.1 174 = .ok (.ireturn, 1) := by decide +kernel
theorem d_Mg_told_175 : decode m_Mg_told.2.1 175 = .ok (.aload_n 0, 1) := by decide +kernel
theorem d_Mg_told_176 : decode m_Mg_told.2.1 176 = .ok (.aload_n 0, 1) := by decide +kernel
theorem d_Mg_told_177 : decode m_Mg_told.2.1 177 = .ok (.getfield 30, 3) := by decide +kernel
theorem d_Mg_told_180 : decode m_Mg_told.2.1 180 = .ok (.invokevirtual 222, 3) := by decide +kernel
theorem lk_Mg_222 : Cond.methodLink "MaypoleGreen" 222 m_Gr_coloursShown.1 ∈ aw_T := aw_in 818 (by decide +kernel) rfl
theorem d_Mg_told_183 : decode m_Mg_told.2.1 183 = .ok (.invokevirtual 174, 3) := by decide +kernel
theorem d_Mg_told_186 : decode m_Mg_told.2.1 186 = .ok (.ireturn, 1) := by decide +kernel
abbrev m_Mg_dancer : aw_MI := (⟨"MaypoleGreen", "dancer", "(II)I"⟩, prog_1_method_14_code, 3, some .int)
theorem k_Mg_dancer : aw_K m_Mg_dancer 2 := ⟨aw_in 831 (by decide +kernel) rfl, aw_in 1 (by decide +kernel) rfl, ⟨by decide, by decide, by decide +kernel⟩, by decide, by decide +kernel⟩
theorem d_Mg_dancer_0 : decode m_Mg_dancer.2.1 0 = .ok (.aload_n 0, 1) := by decide +kernel
theorem d_Mg_dancer_1 : decode m_Mg_dancer.2.1 1 = .ok (.iload_n 1, 1) := by decide +kernel
theorem d_Mg_dancer_2 : decode m_Mg_dancer.2.1 2 = .ok (.invokevirtual 225, 3) := by decide +kernel
abbrev m_Mg_isDancer : aw_MI := (⟨"MaypoleGreen", "isDancer", "(I)Z"⟩, prog_1_method_54_code, 2, some .boolean)
theorem lk_Mg_225 : Cond.methodLink "MaypoleGreen" 225 m_Mg_isDancer.1 ∈ aw_T := aw_in 832 (by decide +kernel) rfl
theorem k_Mg_isDancer : aw_K m_Mg_isDancer 1 := ⟨aw_in 835 (by decide +kernel) rfl, aw_in 1 (by decide +kernel) rfl, ⟨by decide, by decide, by decide +kernel⟩, by decide, by decide +kernel⟩
theorem in_Mg_isDancer : Cond.instanceMethod m_Mg_isDancer.1 ∈ aw_T := aw_in 834 (by decide +kernel) rfl
theorem se_Mg_isDancer : Cond.selects m_Mg_isDancer.1.cls m_Mg_isDancer.1 m_Mg_isDancer.1 ∈ aw_T := aw_inP 29 (by decide +kernel) rfl
theorem d_Mg_dancer_5 : decode m_Mg_dancer.2.1 5 = .ok (.ifCond .ne 9, 3) := by decide +kernel
theorem d_Mg_dancer_14 : decode m_Mg_dancer.2.1 14 = .ok (.iload_n 2, 1) := by decide +kernel
theorem d_Mg_dancer_15 : decode m_Mg_dancer.2.1 15 = .ok (.tableswitch 116 0 4 #[33, 47, 61, 74, 90], 33) := by decide +kernel
theorem d_Mg_dancer_131 : decode m_Mg_dancer.2.1 131 = .ok (.aload_n 0, 1) := by decide +kernel
theorem d_Mg_dancer_132 : decode m_Mg_dancer.2.1 132 = .ok (.iconst 1, 1) := by decide +kernel
theorem d_Mg_dancer_133 : decode m_Mg_dancer.2.1 133 = .ok (.invokevirtual 133, 3) := by decide +kernel
theorem d_Mg_dancer_136 : decode m_Mg_dancer.2.1 136 = .ok (.ireturn, 1) := by decide +kernel
theorem d_Mg_dancer_48 : decode m_Mg_dancer.2.1 48 = .ok (.aload_n 0, 1) := by decide +kernel
theorem d_Mg_dancer_49 : decode m_Mg_dancer.2.1 49 = .ok (.aload_n 0, 1) := by decide +kernel
theorem d_Mg_dancer_50 : decode m_Mg_dancer.2.1 50 = .ok (.getfield 30, 3) := by decide +kernel
theorem d_Mg_dancer_53 : decode m_Mg_dancer.2.1 53 = .ok (.getfield 228, 3) := by decide +kernel
theorem f_Mg_228 : aw_F "MaypoleGreen" 228 2 7 true := ⟨cR2, cT2, 13, fun k => cY2.getD k .int, rfl, ci2, cy2, cn2, rfl, by decide, aw_in 145 (by decide +kernel) rfl, rfl, rfl, rfl⟩
theorem d_Mg_dancer_56 : decode m_Mg_dancer.2.1 56 = .ok (.iload_n 1, 1) := by decide +kernel
theorem d_Mg_dancer_57 : decode m_Mg_dancer.2.1 57 = .ok (.iaload, 1) := by decide +kernel
theorem d_Mg_dancer_58 : decode m_Mg_dancer.2.1 58 = .ok (.invokevirtual 174, 3) := by decide +kernel
theorem d_Mg_dancer_61 : decode m_Mg_dancer.2.1 61 = .ok (.ireturn, 1) := by decide +kernel
theorem d_Mg_dancer_62 : decode m_Mg_dancer.2.1 62 = .ok (.aload_n 0, 1) := by decide +kernel
theorem d_Mg_dancer_63 : decode m_Mg_dancer.2.1 63 = .ok (.aload_n 0, 1) := by decide +kernel
theorem d_Mg_dancer_64 : decode m_Mg_dancer.2.1 64 = .ok (.getfield 30, 3) := by decide +kernel
theorem d_Mg_dancer_67 : decode m_Mg_dancer.2.1 67 = .ok (.getfield 231, 3) := by decide +kernel
theorem f_Mg_231 : aw_F "MaypoleGreen" 231 2 6 true := ⟨cR2, cT2, 13, fun k => cY2.getD k .int, rfl, ci2, cy2, cn2, rfl, by decide, aw_in 142 (by decide +kernel) rfl, rfl, rfl, rfl⟩
theorem d_Mg_dancer_70 : decode m_Mg_dancer.2.1 70 = .ok (.iload_n 1, 1) := by decide +kernel
theorem d_Mg_dancer_71 : decode m_Mg_dancer.2.1 71 = .ok (.iaload, 1) := by decide +kernel
theorem d_Mg_dancer_72 : decode m_Mg_dancer.2.1 72 = .ok (.invokevirtual 174, 3) := by decide +kernel
theorem d_Mg_dancer_75 : decode m_Mg_dancer.2.1 75 = .ok (.ireturn, 1) := by decide +kernel
theorem d_Mg_dancer_76 : decode m_Mg_dancer.2.1 76 = .ok (.aload_n 0, 1) := by decide +kernel
theorem d_Mg_dancer_77 : decode m_Mg_dancer.2.1 77 = .ok (.aload_n 0, 1) := by decide +kernel
theorem d_Mg_dancer_78 : decode m_Mg_dancer.2.1 78 = .ok (.getfield 30, 3) := by decide +kernel
theorem d_Mg_dancer_81 : decode m_Mg_dancer.2.1 81 = .ok (.iload_n 1, 1) := by decide +kernel
theorem d_Mg_dancer_82 : decode m_Mg_dancer.2.1 82 = .ok (.invokevirtual 234, 3) := by decide +kernel
theorem lk_Mg_234 : Cond.methodLink "MaypoleGreen" 234 m_Gr_left.1 ∈ aw_T := aw_in 836 (by decide +kernel) rfl
theorem in_Gr_left : Cond.instanceMethod m_Gr_left.1 ∈ aw_T := aw_in 837 (by decide +kernel) rfl
theorem se_Gr_left : Cond.selects m_Gr_left.1.cls m_Gr_left.1 m_Gr_left.1 ∈ aw_T := aw_in 838 (by decide +kernel) rfl
theorem d_Mg_dancer_85 : decode m_Mg_dancer.2.1 85 = .ok (.invokevirtual 174, 3) := by decide +kernel
theorem d_Mg_dancer_88 : decode m_Mg_dancer.2.1 88 = .ok (.ireturn, 1) := by decide +kernel
theorem d_Mg_dancer_89 : decode m_Mg_dancer.2.1 89 = .ok (.aload_n 0, 1) := by decide +kernel
theorem d_Mg_dancer_90 : decode m_Mg_dancer.2.1 90 = .ok (.aload_n 0, 1) := by decide +kernel
theorem d_Mg_dancer_91 : decode m_Mg_dancer.2.1 91 = .ok (.getfield 30, 3) := by decide +kernel
theorem d_Mg_dancer_94 : decode m_Mg_dancer.2.1 94 = .ok (.getfield 195, 3) := by decide +kernel
theorem d_Mg_dancer_97 : decode m_Mg_dancer.2.1 97 = .ok (.iload_n 1, 1) := by decide +kernel
theorem d_Mg_dancer_98 : decode m_Mg_dancer.2.1 98 = .ok (.invokevirtual 237, 3) := by decide +kernel
theorem lk_Mg_237 : Cond.methodLink "MaypoleGreen" 237 m_Pl_timesOver.1 ∈ aw_T := aw_in 840 (by decide +kernel) rfl
theorem in_Pl_timesOver : Cond.instanceMethod m_Pl_timesOver.1 ∈ aw_T := aw_in 841 (by decide +kernel) rfl
theorem se_Pl_timesOver : Cond.selects m_Pl_timesOver.1.cls m_Pl_timesOver.1 m_Pl_timesOver.1 ∈ aw_T := aw_in 842 (by decide +kernel) rfl
theorem d_Mg_dancer_101 : decode m_Mg_dancer.2.1 101 = .ok (.invokevirtual 174, 3) := by decide +kernel
theorem d_Mg_dancer_104 : decode m_Mg_dancer.2.1 104 = .ok (.ireturn, 1) := by decide +kernel
theorem d_Mg_dancer_105 : decode m_Mg_dancer.2.1 105 = .ok (.aload_n 0, 1) := by decide +kernel
theorem d_Mg_dancer_106 : decode m_Mg_dancer.2.1 106 = .ok (.aload_n 0, 1) := by decide +kernel
theorem d_Mg_dancer_107 : decode m_Mg_dancer.2.1 107 = .ok (.getfield 30, 3) := by decide +kernel
theorem d_Mg_dancer_110 : decode m_Mg_dancer.2.1 110 = .ok (.getfield 240, 3) := by decide +kernel
theorem f_Mg_240 : aw_F "MaypoleGreen" 240 2 8 true := ⟨cR2, cT2, 13, fun k => cY2.getD k .int, rfl, ci2, cy2, cn2, rfl, by decide, aw_in 147 (by decide +kernel) rfl, rfl, rfl, rfl⟩
theorem d_Mg_dancer_113 : decode m_Mg_dancer.2.1 113 = .ok (.iload_n 1, 1) := by decide +kernel
theorem d_Mg_dancer_114 : decode m_Mg_dancer.2.1 114 = .ok (.iaload, 1) := by decide +kernel
theorem d_Mg_dancer_115 : decode m_Mg_dancer.2.1 115 = .ok (.aload_n 0, 1) := by decide +kernel
theorem d_Mg_dancer_116 : decode m_Mg_dancer.2.1 116 = .ok (.getfield 30, 3) := by decide +kernel
theorem d_Mg_dancer_119 : decode m_Mg_dancer.2.1 119 = .ok (.getfield 195, 3) := by decide +kernel
theorem d_Mg_dancer_122 : decode m_Mg_dancer.2.1 122 = .ok (.iload_n 1, 1) := by decide +kernel
theorem d_Mg_dancer_123 : decode m_Mg_dancer.2.1 123 = .ok (.invokevirtual 237, 3) := by decide +kernel
theorem d_Mg_dancer_126 : decode m_Mg_dancer.2.1 126 = .ok (.isub, 1) := by decide +kernel
theorem d_Mg_dancer_127 : decode m_Mg_dancer.2.1 127 = .ok (.invokevirtual 174, 3) := by decide +kernel
theorem d_Mg_dancer_130 : decode m_Mg_dancer.2.1 130 = .ok (.ireturn, 1) := by decide +kernel
theorem d_Mg_dancer_8 : decode m_Mg_dancer.2.1 8 = .ok (.aload_n 0, 1) := by decide +kernel
theorem d_Mg_dancer_9 : decode m_Mg_dancer.2.1 9 = .ok (.iconst 1, 1) := by decide +kernel
theorem d_Mg_dancer_10 : decode m_Mg_dancer.2.1 10 = .ok (.invokevirtual 133, 3) := by decide +kernel
theorem d_Mg_dancer_13 : decode m_Mg_dancer.2.1 13 = .ok (.ireturn, 1) := by decide +kernel
theorem d_Mg_isDancer_0 : decode m_Mg_isDancer.2.1 0 = .ok (.iload_n 1, 1) := by decide +kernel
theorem d_Mg_isDancer_1 : decode m_Mg_isDancer.2.1 1 = .ok (.iconst 0, 1) := by decide +kernel
theorem d_Mg_isDancer_2 : decode m_Mg_isDancer.2.1 2 = .ok (.aload_n 0, 1) := by decide +kernel
theorem d_Mg_isDancer_3 : decode m_Mg_isDancer.2.1 3 = .ok (.getfield 30, 3) := by decide +kernel
theorem d_Mg_isDancer_6 : decode m_Mg_isDancer.2.1 6 = .ok (.getfield 171, 3) := by decide +kernel
theorem d_Mg_isDancer_9 : decode m_Mg_isDancer.2.1 9 = .ok (.iconst 1, 1) := by decide +kernel
theorem d_Mg_isDancer_10 : decode m_Mg_isDancer.2.1 10 = .ok (.isub, 1) := by decide +kernel
theorem d_Mg_isDancer_11 : decode m_Mg_isDancer.2.1 11 = .ok (.invokestatic 110, 3) := by decide +kernel
theorem d_Mg_isDancer_14 : decode m_Mg_isDancer.2.1 14 = .ok (.ireturn, 1) := by decide +kernel
abbrev m_Mg_place : aw_MI := (⟨"MaypoleGreen", "place", "(I)I"⟩, prog_1_method_15_code, 2, some .int)
theorem k_Mg_place : aw_K m_Mg_place 1 := ⟨aw_in 848 (by decide +kernel) rfl, aw_in 1 (by decide +kernel) rfl, ⟨by decide, by decide, by decide +kernel⟩, by decide, by decide +kernel⟩
theorem d_Mg_place_0 : decode m_Mg_place.2.1 0 = .ok (.aload_n 0, 1) := by decide +kernel
theorem d_Mg_place_1 : decode m_Mg_place.2.1 1 = .ok (.iload_n 1, 1) := by decide +kernel
theorem d_Mg_place_2 : decode m_Mg_place.2.1 2 = .ok (.invokevirtual 243, 3) := by decide +kernel
abbrev m_Mg_isPlace : aw_MI := (⟨"MaypoleGreen", "isPlace", "(I)Z"⟩, prog_1_method_55_code, 2, some .boolean)
theorem lk_Mg_243 : Cond.methodLink "MaypoleGreen" 243 m_Mg_isPlace.1 ∈ aw_T := aw_in 849 (by decide +kernel) rfl
theorem k_Mg_isPlace : aw_K m_Mg_isPlace 1 := ⟨aw_in 852 (by decide +kernel) rfl, aw_in 1 (by decide +kernel) rfl, ⟨by decide, by decide, by decide +kernel⟩, by decide, by decide +kernel⟩
theorem in_Mg_isPlace : Cond.instanceMethod m_Mg_isPlace.1 ∈ aw_T := aw_in 851 (by decide +kernel) rfl
theorem se_Mg_isPlace : Cond.selects m_Mg_isPlace.1.cls m_Mg_isPlace.1 m_Mg_isPlace.1 ∈ aw_T := aw_inP 30 (by decide +kernel) rfl
theorem d_Mg_place_5 : decode m_Mg_place.2.1 5 = .ok (.ifCond .eq 19, 3) := by decide +kernel
theorem d_Mg_place_24 : decode m_Mg_place.2.1 24 = .ok (.aload_n 0, 1) := by decide +kernel
theorem d_Mg_place_25 : decode m_Mg_place.2.1 25 = .ok (.iconst 1, 1) := by decide +kernel
theorem d_Mg_place_26 : decode m_Mg_place.2.1 26 = .ok (.invokevirtual 133, 3) := by decide +kernel
theorem d_Mg_place_29 : decode m_Mg_place.2.1 29 = .ok (.ireturn, 1) := by decide +kernel
theorem d_Mg_place_8 : decode m_Mg_place.2.1 8 = .ok (.aload_n 0, 1) := by decide +kernel
theorem d_Mg_place_9 : decode m_Mg_place.2.1 9 = .ok (.aload_n 0, 1) := by decide +kernel
theorem d_Mg_place_10 : decode m_Mg_place.2.1 10 = .ok (.getfield 30, 3) := by decide +kernel
theorem d_Mg_place_13 : decode m_Mg_place.2.1 13 = .ok (.getfield 246, 3) := by decide +kernel
theorem f_Mg_246 : aw_F "MaypoleGreen" 246 2 9 true := ⟨cR2, cT2, 13, fun k => cY2.getD k .int, rfl, ci2, cy2, cn2, rfl, by decide, aw_in 150 (by decide +kernel) rfl, rfl, rfl, rfl⟩
theorem d_Mg_place_16 : decode m_Mg_place.2.1 16 = .ok (.iload_n 1, 1) := by decide +kernel
theorem d_Mg_place_17 : decode m_Mg_place.2.1 17 = .ok (.iaload, 1) := by decide +kernel
theorem d_Mg_place_18 : decode m_Mg_place.2.1 18 = .ok (.invokevirtual 174, 3) := by decide +kernel
theorem d_Mg_place_21 : decode m_Mg_place.2.1 21 = .ok (.goto 8, 3) := by decide +kernel
theorem d_Mg_isPlace_0 : decode m_Mg_isPlace.2.1 0 = .ok (.iload_n 1, 1) := by decide +kernel
theorem d_Mg_isPlace_1 : decode m_Mg_isPlace.2.1 1 = .ok (.iconst 0, 1) := by decide +kernel
theorem d_Mg_isPlace_2 : decode m_Mg_isPlace.2.1 2 = .ok (.aload_n 0, 1) := by decide +kernel
theorem d_Mg_isPlace_3 : decode m_Mg_isPlace.2.1 3 = .ok (.getfield 30, 3) := by decide +kernel
theorem d_Mg_isPlace_6 : decode m_Mg_isPlace.2.1 6 = .ok (.getfield 171, 3) := by decide +kernel
theorem d_Mg_isPlace_9 : decode m_Mg_isPlace.2.1 9 = .ok (.iconst 1, 1) := by decide +kernel
theorem d_Mg_isPlace_10 : decode m_Mg_isPlace.2.1 10 = .ok (.isub, 1) := by decide +kernel
theorem d_Mg_isPlace_11 : decode m_Mg_isPlace.2.1 11 = .ok (.invokestatic 110, 3) := by decide +kernel
theorem d_Mg_isPlace_14 : decode m_Mg_isPlace.2.1 14 = .ok (.ireturn, 1) := by decide +kernel
abbrev m_Mg_plait : aw_MI := (⟨"MaypoleGreen", "plait", "(II)I"⟩, prog_1_method_16_code, 3, some .int)
theorem k_Mg_plait : aw_K m_Mg_plait 2 := ⟨aw_in 856 (by decide +kernel) rfl, aw_in 1 (by decide +kernel) rfl, ⟨by decide, by decide, by decide +kernel⟩, by decide, by decide +kernel⟩
theorem d_Mg_plait_0 : decode m_Mg_plait.2.1 0 = .ok (.iload_n 2, 1) := by decide +kernel
theorem d_Mg_plait_1 : decode m_Mg_plait.2.1 1 = .ok (.iconst 0, 1) := by decide +kernel
theorem d_Mg_plait_2 : decode m_Mg_plait.2.1 2 = .ok (.bipush 6, 2) := by decide +kernel
theorem d_Mg_plait_4 : decode m_Mg_plait.2.1 4 = .ok (.invokestatic 110, 3) := by decide +kernel
theorem d_Mg_plait_7 : decode m_Mg_plait.2.1 7 = .ok (.ifCond .ne 9, 3) := by decide +kernel
theorem d_Mg_plait_16 : decode m_Mg_plait.2.1 16 = .ok (.iload_n 1, 1) := by decide +kernel
theorem d_Mg_plait_17 : decode m_Mg_plait.2.1 17 = .ok (.iconst 0, 1) := by decide +kernel
theorem d_Mg_plait_18 : decode m_Mg_plait.2.1 18 = .ok (.aload_n 0, 1) := by decide +kernel
theorem d_Mg_plait_19 : decode m_Mg_plait.2.1 19 = .ok (.getfield 30, 3) := by decide +kernel
theorem d_Mg_plait_22 : decode m_Mg_plait.2.1 22 = .ok (.getfield 195, 3) := by decide +kernel
theorem d_Mg_plait_25 : decode m_Mg_plait.2.1 25 = .ok (.getfield 198, 3) := by decide +kernel
theorem d_Mg_plait_28 : decode m_Mg_plait.2.1 28 = .ok (.iconst 1, 1) := by decide +kernel
theorem d_Mg_plait_29 : decode m_Mg_plait.2.1 29 = .ok (.isub, 1) := by decide +kernel
theorem d_Mg_plait_30 : decode m_Mg_plait.2.1 30 = .ok (.invokestatic 110, 3) := by decide +kernel
theorem d_Mg_plait_33 : decode m_Mg_plait.2.1 33 = .ok (.ifCond .ne 10, 3) := by decide +kernel
theorem d_Mg_plait_43 : decode m_Mg_plait.2.1 43 = .ok (.iload_n 2, 1) := by decide +kernel
theorem d_Mg_plait_44 : decode m_Mg_plait.2.1 44 = .ok (.tableswitch 138 0 5 #[40, 56, 72, 88, 104, 117], 40) := by decide +kernel
theorem d_Mg_plait_182 : decode m_Mg_plait.2.1 182 = .ok (.aload_n 0, 1) := by decide +kernel
theorem d_Mg_plait_183 : decode m_Mg_plait.2.1 183 = .ok (.aload_n 0, 1) := by decide +kernel
theorem d_Mg_plait_184 : decode m_Mg_plait.2.1 184 = .ok (.getfield 30, 3) := by decide +kernel
theorem d_Mg_plait_187 : decode m_Mg_plait.2.1 187 = .ok (.iload_n 1, 1) := by decide +kernel
theorem d_Mg_plait_188 : decode m_Mg_plait.2.1 188 = .ok (.iconst (-1), 1) := by decide +kernel
theorem d_Mg_plait_189 : decode m_Mg_plait.2.1 189 = .ok (.invokevirtual 267, 3) := by decide +kernel
theorem lk_Mg_267 : Cond.methodLink "MaypoleGreen" 267 m_Gr_mustGo.1 ∈ aw_T := aw_in 866 (by decide +kernel) rfl
theorem in_Gr_mustGo : Cond.instanceMethod m_Gr_mustGo.1 ∈ aw_T := aw_in 867 (by decide +kernel) rfl
theorem se_Gr_mustGo : Cond.selects m_Gr_mustGo.1.cls m_Gr_mustGo.1 m_Gr_mustGo.1 ∈ aw_T := aw_in 868 (by decide +kernel) rfl
theorem d_Mg_plait_192 : decode m_Mg_plait.2.1 192 = .ok (.invokevirtual 174, 3) := by decide +kernel
theorem d_Mg_plait_195 : decode m_Mg_plait.2.1 195 = .ok (.ireturn, 1) := by decide +kernel
theorem d_Mg_plait_84 : decode m_Mg_plait.2.1 84 = .ok (.aload_n 0, 1) := by decide +kernel
theorem d_Mg_plait_85 : decode m_Mg_plait.2.1 85 = .ok (.aload_n 0, 1) := by decide +kernel
theorem d_Mg_plait_86 : decode m_Mg_plait.2.1 86 = .ok (.getfield 30, 3) := by decide +kernel
theorem d_Mg_plait_89 : decode m_Mg_plait.2.1 89 = .ok (.getfield 195, 3) := by decide +kernel
theorem d_Mg_plait_92 : decode m_Mg_plait.2.1 92 = .ok (.iload_n 1, 1) := by decide +kernel
theorem d_Mg_plait_93 : decode m_Mg_plait.2.1 93 = .ok (.invokevirtual 249, 3) := by decide +kernel
theorem lk_Mg_249 : Cond.methodLink "MaypoleGreen" 249 m_Pl_gapAt.1 ∈ aw_T := aw_in 857 (by decide +kernel) rfl
theorem d_Mg_plait_96 : decode m_Mg_plait.2.1 96 = .ok (.invokevirtual 174, 3) := by decide +kernel
theorem d_Mg_plait_99 : decode m_Mg_plait.2.1 99 = .ok (.ireturn, 1) := by decide +kernel
theorem d_Mg_plait_100 : decode m_Mg_plait.2.1 100 = .ok (.aload_n 0, 1) := by decide +kernel
theorem d_Mg_plait_101 : decode m_Mg_plait.2.1 101 = .ok (.aload_n 0, 1) := by decide +kernel
theorem d_Mg_plait_102 : decode m_Mg_plait.2.1 102 = .ok (.getfield 30, 3) := by decide +kernel
theorem d_Mg_plait_105 : decode m_Mg_plait.2.1 105 = .ok (.getfield 195, 3) := by decide +kernel
theorem d_Mg_plait_108 : decode m_Mg_plait.2.1 108 = .ok (.iload_n 1, 1) := by decide +kernel
theorem d_Mg_plait_109 : decode m_Mg_plait.2.1 109 = .ok (.invokevirtual 252, 3) := by decide +kernel
theorem lk_Mg_252 : Cond.methodLink "MaypoleGreen" 252 m_Pl_overAt.1 ∈ aw_T := aw_in 858 (by decide +kernel) rfl
theorem in_Pl_overAt : Cond.instanceMethod m_Pl_overAt.1 ∈ aw_T := aw_in 859 (by decide +kernel) rfl
theorem se_Pl_overAt : Cond.selects m_Pl_overAt.1.cls m_Pl_overAt.1 m_Pl_overAt.1 ∈ aw_T := aw_in 860 (by decide +kernel) rfl
theorem d_Mg_plait_112 : decode m_Mg_plait.2.1 112 = .ok (.invokevirtual 174, 3) := by decide +kernel
theorem d_Mg_plait_115 : decode m_Mg_plait.2.1 115 = .ok (.ireturn, 1) := by decide +kernel
theorem d_Mg_plait_116 : decode m_Mg_plait.2.1 116 = .ok (.aload_n 0, 1) := by decide +kernel
theorem d_Mg_plait_117 : decode m_Mg_plait.2.1 117 = .ok (.aload_n 0, 1) := by decide +kernel
theorem d_Mg_plait_118 : decode m_Mg_plait.2.1 118 = .ok (.getfield 30, 3) := by decide +kernel
theorem d_Mg_plait_121 : decode m_Mg_plait.2.1 121 = .ok (.getfield 195, 3) := by decide +kernel
theorem d_Mg_plait_124 : decode m_Mg_plait.2.1 124 = .ok (.iload_n 1, 1) := by decide +kernel
theorem d_Mg_plait_125 : decode m_Mg_plait.2.1 125 = .ok (.invokevirtual 255, 3) := by decide +kernel
theorem lk_Mg_255 : Cond.methodLink "MaypoleGreen" 255 m_Pl_upperAt.1 ∈ aw_T := aw_in 862 (by decide +kernel) rfl
theorem d_Mg_plait_128 : decode m_Mg_plait.2.1 128 = .ok (.invokevirtual 174, 3) := by decide +kernel
theorem d_Mg_plait_131 : decode m_Mg_plait.2.1 131 = .ok (.ireturn, 1) := by decide +kernel
theorem d_Mg_plait_132 : decode m_Mg_plait.2.1 132 = .ok (.aload_n 0, 1) := by decide +kernel
theorem d_Mg_plait_133 : decode m_Mg_plait.2.1 133 = .ok (.aload_n 0, 1) := by decide +kernel
theorem d_Mg_plait_134 : decode m_Mg_plait.2.1 134 = .ok (.getfield 30, 3) := by decide +kernel
theorem d_Mg_plait_137 : decode m_Mg_plait.2.1 137 = .ok (.getfield 195, 3) := by decide +kernel
theorem d_Mg_plait_140 : decode m_Mg_plait.2.1 140 = .ok (.iload_n 1, 1) := by decide +kernel
theorem d_Mg_plait_141 : decode m_Mg_plait.2.1 141 = .ok (.invokevirtual 258, 3) := by decide +kernel
theorem lk_Mg_258 : Cond.methodLink "MaypoleGreen" 258 m_Pl_lowerAt.1 ∈ aw_T := aw_in 863 (by decide +kernel) rfl
theorem d_Mg_plait_144 : decode m_Mg_plait.2.1 144 = .ok (.invokevirtual 174, 3) := by decide +kernel
theorem d_Mg_plait_147 : decode m_Mg_plait.2.1 147 = .ok (.ireturn, 1) := by decide +kernel
theorem d_Mg_plait_148 : decode m_Mg_plait.2.1 148 = .ok (.aload_n 0, 1) := by decide +kernel
theorem d_Mg_plait_149 : decode m_Mg_plait.2.1 149 = .ok (.aload_n 0, 1) := by decide +kernel
theorem d_Mg_plait_150 : decode m_Mg_plait.2.1 150 = .ok (.getfield 30, 3) := by decide +kernel
theorem d_Mg_plait_153 : decode m_Mg_plait.2.1 153 = .ok (.iload_n 1, 1) := by decide +kernel
theorem d_Mg_plait_154 : decode m_Mg_plait.2.1 154 = .ok (.invokevirtual 261, 3) := by decide +kernel
theorem lk_Mg_261 : Cond.methodLink "MaypoleGreen" 261 m_Gr_rowAt.1 ∈ aw_T := aw_in 864 (by decide +kernel) rfl
theorem d_Mg_plait_157 : decode m_Mg_plait.2.1 157 = .ok (.invokevirtual 174, 3) := by decide +kernel
theorem d_Mg_plait_160 : decode m_Mg_plait.2.1 160 = .ok (.ireturn, 1) := by decide +kernel
theorem d_Mg_plait_161 : decode m_Mg_plait.2.1 161 = .ok (.aload_n 0, 1) := by decide +kernel
theorem d_Mg_plait_162 : decode m_Mg_plait.2.1 162 = .ok (.aload_n 0, 1) := by decide +kernel
theorem d_Mg_plait_163 : decode m_Mg_plait.2.1 163 = .ok (.getfield 30, 3) := by decide +kernel
theorem d_Mg_plait_166 : decode m_Mg_plait.2.1 166 = .ok (.iload_n 1, 1) := by decide +kernel
theorem d_Mg_plait_167 : decode m_Mg_plait.2.1 167 = .ok (.invokevirtual 264, 3) := by decide +kernel
theorem lk_Mg_264 : Cond.methodLink "MaypoleGreen" 264 m_Gr_isFree.1 ∈ aw_T := aw_in 865 (by decide +kernel) rfl
theorem d_Mg_plait_170 : decode m_Mg_plait.2.1 170 = .ok (.ifCond .eq 7, 3) := by decide +kernel
theorem d_Mg_plait_177 : decode m_Mg_plait.2.1 177 = .ok (.iconst 0, 1) := by decide +kernel
theorem d_Mg_plait_178 : decode m_Mg_plait.2.1 178 = .ok (.invokevirtual 174, 3) := by decide +kernel
theorem d_Mg_plait_181 : decode m_Mg_plait.2.1 181 = .ok (.ireturn, 1) := by decide +kernel
theorem d_Mg_plait_173 : decode m_Mg_plait.2.1 173 = .ok (.iconst 1, 1) := by decide +kernel
theorem d_Mg_plait_174 : decode m_Mg_plait.2.1 174 = .ok (.goto 4, 3) := by decide +kernel
theorem d_Mg_plait_36 : decode m_Mg_plait.2.1 36 = .ok (.aload_n 0, 1) := by decide +kernel
theorem d_Mg_plait_37 : decode m_Mg_plait.2.1 37 = .ok (.bipush 6, 2) := by decide +kernel
theorem d_Mg_plait_39 : decode m_Mg_plait.2.1 39 = .ok (.invokevirtual 133, 3) := by decide +kernel
theorem d_Mg_plait_42 : decode m_Mg_plait.2.1 42 = .ok (.ireturn, 1) := by decide +kernel
theorem d_Mg_plait_10 : decode m_Mg_plait.2.1 10 = .ok (.aload_n 0, 1) := by decide +kernel
theorem d_Mg_plait_11 : decode m_Mg_plait.2.1 11 = .ok (.iconst 1, 1) := by decide +kernel
theorem d_Mg_plait_12 : decode m_Mg_plait.2.1 12 = .ok (.invokevirtual 133, 3) := by decide +kernel
theorem d_Mg_plait_15 : decode m_Mg_plait.2.1 15 = .ok (.ireturn, 1) := by decide +kernel
abbrev m_Mg_shows : aw_MI := (⟨"MaypoleGreen", "shows", "(I)I"⟩, prog_1_method_17_code, 3, some .int)
theorem k_Mg_shows : aw_K m_Mg_shows 1 := ⟨aw_in 878 (by decide +kernel) rfl, aw_in 1 (by decide +kernel) rfl, ⟨by decide, by decide, by decide +kernel⟩, by decide, by decide +kernel⟩
theorem d_Mg_shows_0 : decode m_Mg_shows.2.1 0 = .ok (.aload_n 0, 1) := by decide +kernel
theorem d_Mg_shows_1 : decode m_Mg_shows.2.1 1 = .ok (.iload_n 1, 1) := by decide +kernel
theorem d_Mg_shows_2 : decode m_Mg_shows.2.1 2 = .ok (.invokevirtual 270, 3) := by decide +kernel
abbrev m_Mg_isGap : aw_MI := (⟨"MaypoleGreen", "isGap", "(I)Z"⟩, prog_1_method_56_code, 2, some .boolean)
theorem lk_Mg_270 : Cond.methodLink "MaypoleGreen" 270 m_Mg_isGap.1 ∈ aw_T := aw_in 879 (by decide +kernel) rfl
theorem k_Mg_isGap : aw_K m_Mg_isGap 1 := ⟨aw_in 882 (by decide +kernel) rfl, aw_in 1 (by decide +kernel) rfl, ⟨by decide, by decide, by decide +kernel⟩, by decide, by decide +kernel⟩
theorem in_Mg_isGap : Cond.instanceMethod m_Mg_isGap.1 ∈ aw_T := aw_in 881 (by decide +kernel) rfl
theorem se_Mg_isGap : Cond.selects m_Mg_isGap.1.cls m_Mg_isGap.1 m_Mg_isGap.1 ∈ aw_T := aw_inP 31 (by decide +kernel) rfl
theorem d_Mg_shows_5 : decode m_Mg_shows.2.1 5 = .ok (.ifCond .ne 9, 3) := by decide +kernel
theorem d_Mg_shows_14 : decode m_Mg_shows.2.1 14 = .ok (.aload_n 0, 1) := by decide +kernel
theorem d_Mg_shows_15 : decode m_Mg_shows.2.1 15 = .ok (.getfield 30, 3) := by decide +kernel
theorem d_Mg_shows_18 : decode m_Mg_shows.2.1 18 = .ok (.iload_n 1, 1) := by decide +kernel
theorem d_Mg_shows_19 : decode m_Mg_shows.2.1 19 = .ok (.aload_n 0, 1) := by decide +kernel
theorem d_Mg_shows_20 : decode m_Mg_shows.2.1 20 = .ok (.getfield 30, 3) := by decide +kernel
theorem d_Mg_shows_23 : decode m_Mg_shows.2.1 23 = .ok (.getfield 195, 3) := by decide +kernel
theorem d_Mg_shows_26 : decode m_Mg_shows.2.1 26 = .ok (.getfield 198, 3) := by decide +kernel
theorem d_Mg_shows_29 : decode m_Mg_shows.2.1 29 = .ok (.invokevirtual 273, 3) := by decide +kernel
theorem lk_Mg_273 : Cond.methodLink "MaypoleGreen" 273 m_Gr_colourIn.1 ∈ aw_T := aw_in 883 (by decide +kernel) rfl
theorem d_Mg_shows_32 : decode m_Mg_shows.2.1 32 = .ok (.istore_n 2, 1) := by decide +kernel
theorem d_Mg_shows_33 : decode m_Mg_shows.2.1 33 = .ok (.iload_n 2, 1) := by decide +kernel
theorem d_Mg_shows_34 : decode m_Mg_shows.2.1 34 = .ok (.bipush 6, 2) := by decide +kernel
theorem d_Mg_shows_36 : decode m_Mg_shows.2.1 36 = .ok (.if_icmp .ne 12, 3) := by decide +kernel
theorem d_Mg_shows_48 : decode m_Mg_shows.2.1 48 = .ok (.aload_n 0, 1) := by decide +kernel
theorem d_Mg_shows_49 : decode m_Mg_shows.2.1 49 = .ok (.iload_n 2, 1) := by decide +kernel
theorem d_Mg_shows_50 : decode m_Mg_shows.2.1 50 = .ok (.invokevirtual 174, 3) := by decide +kernel
theorem d_Mg_shows_53 : decode m_Mg_shows.2.1 53 = .ok (.ireturn, 1) := by decide +kernel
theorem d_Mg_shows_39 : decode m_Mg_shows.2.1 39 = .ok (.aload_n 0, 1) := by decide +kernel
theorem d_Mg_shows_40 : decode m_Mg_shows.2.1 40 = .ok (.bipush 6, 2) := by decide +kernel
theorem d_Mg_shows_42 : decode m_Mg_shows.2.1 42 = .ok (.invokevirtual 133, 3) := by decide +kernel
theorem d_Mg_shows_45 : decode m_Mg_shows.2.1 45 = .ok (.goto 8, 3) := by decide +kernel
theorem d_Mg_shows_8 : decode m_Mg_shows.2.1 8 = .ok (.aload_n 0, 1) := by decide +kernel
theorem d_Mg_shows_9 : decode m_Mg_shows.2.1 9 = .ok (.iconst 1, 1) := by decide +kernel
theorem d_Mg_shows_10 : decode m_Mg_shows.2.1 10 = .ok (.invokevirtual 133, 3) := by decide +kernel
theorem d_Mg_shows_13 : decode m_Mg_shows.2.1 13 = .ok (.ireturn, 1) := by decide +kernel
theorem d_Mg_isGap_0 : decode m_Mg_isGap.2.1 0 = .ok (.iload_n 1, 1) := by decide +kernel
theorem d_Mg_isGap_1 : decode m_Mg_isGap.2.1 1 = .ok (.iconst 0, 1) := by decide +kernel
theorem d_Mg_isGap_2 : decode m_Mg_isGap.2.1 2 = .ok (.aload_n 0, 1) := by decide +kernel
theorem d_Mg_isGap_3 : decode m_Mg_isGap.2.1 3 = .ok (.getfield 30, 3) := by decide +kernel
theorem d_Mg_isGap_6 : decode m_Mg_isGap.2.1 6 = .ok (.invokevirtual 191, 3) := by decide +kernel
theorem d_Mg_isGap_9 : decode m_Mg_isGap.2.1 9 = .ok (.iconst 1, 1) := by decide +kernel
theorem d_Mg_isGap_10 : decode m_Mg_isGap.2.1 10 = .ok (.isub, 1) := by decide +kernel
theorem d_Mg_isGap_11 : decode m_Mg_isGap.2.1 11 = .ok (.invokestatic 110, 3) := by decide +kernel
theorem d_Mg_isGap_14 : decode m_Mg_isGap.2.1 14 = .ok (.ireturn, 1) := by decide +kernel
abbrev m_Mg_passes : aw_MI := (⟨"MaypoleGreen", "passes", "(I)I"⟩, prog_1_method_18_code, 2, some .int)
theorem k_Mg_passes : aw_K m_Mg_passes 1 := ⟨aw_in 894 (by decide +kernel) rfl, aw_in 1 (by decide +kernel) rfl, ⟨by decide, by decide, by decide +kernel⟩, by decide, by decide +kernel⟩
theorem d_Mg_passes_0 : decode m_Mg_passes.2.1 0 = .ok (.aload_n 0, 1) := by decide +kernel
theorem d_Mg_passes_1 : decode m_Mg_passes.2.1 1 = .ok (.iload_n 1, 1) := by decide +kernel
theorem d_Mg_passes_2 : decode m_Mg_passes.2.1 2 = .ok (.invokevirtual 270, 3) := by decide +kernel
theorem d_Mg_passes_5 : decode m_Mg_passes.2.1 5 = .ok (.ifCond .eq 21, 3) := by decide +kernel
theorem d_Mg_passes_26 : decode m_Mg_passes.2.1 26 = .ok (.aload_n 0, 1) := by decide +kernel
theorem d_Mg_passes_27 : decode m_Mg_passes.2.1 27 = .ok (.iconst 1, 1) := by decide +kernel
theorem d_Mg_passes_28 : decode m_Mg_passes.2.1 28 = .ok (.invokevirtual 133, 3) := by decide +kernel
theorem d_Mg_passes_31 : decode m_Mg_passes.2.1 31 = .ok (.ireturn, 1) := by decide +kernel
theorem d_Mg_passes_8 : decode m_Mg_passes.2.1 8 = .ok (.aload_n 0, 1) := by decide +kernel
theorem d_Mg_passes_9 : decode m_Mg_passes.2.1 9 = .ok (.aload_n 0, 1) := by decide +kernel
theorem d_Mg_passes_10 : decode m_Mg_passes.2.1 10 = .ok (.getfield 30, 3) := by decide +kernel
theorem d_Mg_passes_13 : decode m_Mg_passes.2.1 13 = .ok (.getfield 195, 3) := by decide +kernel
theorem d_Mg_passes_16 : decode m_Mg_passes.2.1 16 = .ok (.iload_n 1, 1) := by decide +kernel
theorem d_Mg_passes_17 : decode m_Mg_passes.2.1 17 = .ok (.invokevirtual 276, 3) := by decide +kernel
theorem lk_Mg_276 : Cond.methodLink "MaypoleGreen" 276 m_Pl_timesIn.1 ∈ aw_T := aw_in 895 (by decide +kernel) rfl
theorem in_Pl_timesIn : Cond.instanceMethod m_Pl_timesIn.1 ∈ aw_T := aw_in 896 (by decide +kernel) rfl
theorem se_Pl_timesIn : Cond.selects m_Pl_timesIn.1.cls m_Pl_timesIn.1 m_Pl_timesIn.1 ∈ aw_T := aw_in 897 (by decide +kernel) rfl
theorem d_Mg_passes_20 : decode m_Mg_passes.2.1 20 = .ok (.invokevirtual 174, 3) := by decide +kernel
theorem d_Mg_passes_23 : decode m_Mg_passes.2.1 23 = .ok (.goto 8, 3) := by decide +kernel
abbrev m_Mg_pass : aw_MI := (⟨"MaypoleGreen", "pass", "(IZ)I"⟩, prog_1_method_19_code, 4, some .int)
theorem k_Mg_pass : aw_K m_Mg_pass 2 := ⟨aw_in 903 (by decide +kernel) rfl, aw_in 1 (by decide +kernel) rfl, ⟨by decide, by decide, by decide +kernel⟩, by decide, by decide +kernel⟩
theorem d_Mg_pass_0 : decode m_Mg_pass.2.1 0 = .ok (.aload_n 0, 1) := by decide +kernel
theorem d_Mg_pass_1 : decode m_Mg_pass.2.1 1 = .ok (.iload_n 1, 1) := by decide +kernel
theorem d_Mg_pass_2 : decode m_Mg_pass.2.1 2 = .ok (.invokevirtual 270, 3) := by decide +kernel
theorem d_Mg_pass_5 : decode m_Mg_pass.2.1 5 = .ok (.ifCond .ne 9, 3) := by decide +kernel
theorem d_Mg_pass_14 : decode m_Mg_pass.2.1 14 = .ok (.aload_n 0, 1) := by decide +kernel
theorem d_Mg_pass_15 : decode m_Mg_pass.2.1 15 = .ok (.getfield 30, 3) := by decide +kernel
theorem d_Mg_pass_18 : decode m_Mg_pass.2.1 18 = .ok (.iload_n 2, 1) := by decide +kernel
theorem d_Mg_pass_19 : decode m_Mg_pass.2.1 19 = .ok (.ifCond .eq 11, 3) := by decide +kernel
theorem d_Mg_pass_30 : decode m_Mg_pass.2.1 30 = .ok (.iconst 2, 1) := by decide +kernel
theorem d_Mg_pass_31 : decode m_Mg_pass.2.1 31 = .ok (.iload_n 1, 1) := by decide +kernel
theorem d_Mg_pass_32 : decode m_Mg_pass.2.1 32 = .ok (.imul, 1) := by decide +kernel
theorem d_Mg_pass_33 : decode m_Mg_pass.2.1 33 = .ok (.invokevirtual 279, 3) := by decide +kernel
theorem lk_Mg_279 : Cond.methodLink "MaypoleGreen" 279 m_Gr_makePass.1 ∈ aw_T := aw_in 904 (by decide +kernel) rfl
theorem d_Mg_pass_36 : decode m_Mg_pass.2.1 36 = .ok (.istore_n 3, 1) := by decide +kernel
theorem d_Mg_pass_37 : decode m_Mg_pass.2.1 37 = .ok (.iload_n 3, 1) := by decide +kernel
theorem d_Mg_pass_38 : decode m_Mg_pass.2.1 38 = .ok (.iconst (-1), 1) := by decide +kernel
theorem d_Mg_pass_39 : decode m_Mg_pass.2.1 39 = .ok (.if_icmp .ne 12, 3) := by decide +kernel
theorem d_Mg_pass_51 : decode m_Mg_pass.2.1 51 = .ok (.aload_n 0, 1) := by decide +kernel
theorem d_Mg_pass_52 : decode m_Mg_pass.2.1 52 = .ok (.aload_n 0, 1) := by decide +kernel
theorem d_Mg_pass_53 : decode m_Mg_pass.2.1 53 = .ok (.getfield 30, 3) := by decide +kernel
theorem d_Mg_pass_56 : decode m_Mg_pass.2.1 56 = .ok (.getfield 195, 3) := by decide +kernel
theorem d_Mg_pass_59 : decode m_Mg_pass.2.1 59 = .ok (.getfield 198, 3) := by decide +kernel
theorem d_Mg_pass_62 : decode m_Mg_pass.2.1 62 = .ok (.invokevirtual 174, 3) := by decide +kernel
theorem d_Mg_pass_65 : decode m_Mg_pass.2.1 65 = .ok (.ireturn, 1) := by decide +kernel
theorem d_Mg_pass_42 : decode m_Mg_pass.2.1 42 = .ok (.aload_n 0, 1) := by decide +kernel
theorem d_Mg_pass_43 : decode m_Mg_pass.2.1 43 = .ok (.bipush 7, 2) := by decide +kernel
theorem d_Mg_pass_45 : decode m_Mg_pass.2.1 45 = .ok (.invokevirtual 133, 3) := by decide +kernel
theorem d_Mg_pass_48 : decode m_Mg_pass.2.1 48 = .ok (.goto 17, 3) := by decide +kernel
theorem d_Mg_pass_22 : decode m_Mg_pass.2.1 22 = .ok (.iconst 2, 1) := by decide +kernel
theorem d_Mg_pass_23 : decode m_Mg_pass.2.1 23 = .ok (.iload_n 1, 1) := by decide +kernel
theorem d_Mg_pass_24 : decode m_Mg_pass.2.1 24 = .ok (.imul, 1) := by decide +kernel
theorem d_Mg_pass_25 : decode m_Mg_pass.2.1 25 = .ok (.iconst 1, 1) := by decide +kernel
theorem d_Mg_pass_26 : decode m_Mg_pass.2.1 26 = .ok (.iadd, 1) := by decide +kernel
theorem d_Mg_pass_27 : decode m_Mg_pass.2.1 27 = .ok (.goto 6, 3) := by decide +kernel
theorem d_Mg_pass_8 : decode m_Mg_pass.2.1 8 = .ok (.aload_n 0, 1) := by decide +kernel
theorem d_Mg_pass_9 : decode m_Mg_pass.2.1 9 = .ok (.iconst 1, 1) := by decide +kernel
theorem d_Mg_pass_10 : decode m_Mg_pass.2.1 10 = .ok (.invokevirtual 133, 3) := by decide +kernel
theorem d_Mg_pass_13 : decode m_Mg_pass.2.1 13 = .ok (.ireturn, 1) := by decide +kernel
abbrev m_Mg_back : aw_MI := (⟨"MaypoleGreen", "back", "()I"⟩, prog_1_method_20_code, 1, some .int)
theorem k_Mg_back : aw_K m_Mg_back 0 := ⟨aw_in 908 (by decide +kernel) rfl, aw_in 1 (by decide +kernel) rfl, ⟨by decide, by decide, by decide +kernel⟩, by decide, by decide +kernel⟩
theorem d_Mg_back_0 : decode m_Mg_back.2.1 0 = .ok (.aload_n 0, 1) := by decide +kernel
theorem d_Mg_back_1 : decode m_Mg_back.2.1 1 = .ok (.getfield 30, 3) := by decide +kernel
theorem d_Mg_back_4 : decode m_Mg_back.2.1 4 = .ok (.invokevirtual 282, 3) := by decide +kernel
theorem lk_Mg_282 : Cond.methodLink "MaypoleGreen" 282 m_Gr_doBack.1 ∈ aw_T := aw_in 909 (by decide +kernel) rfl
theorem d_Mg_back_7 : decode m_Mg_back.2.1 7 = .ok (.ifCond .eq 20, 3) := by decide +kernel
theorem d_Mg_back_27 : decode m_Mg_back.2.1 27 = .ok (.aload_n 0, 1) := by decide +kernel
theorem d_Mg_back_28 : decode m_Mg_back.2.1 28 = .ok (.bipush 7, 2) := by decide +kernel
theorem d_Mg_back_30 : decode m_Mg_back.2.1 30 = .ok (.invokevirtual 133, 3) := by decide +kernel
theorem d_Mg_back_33 : decode m_Mg_back.2.1 33 = .ok (.ireturn, 1) := by decide +kernel
theorem d_Mg_back_10 : decode m_Mg_back.2.1 10 = .ok (.aload_n 0, 1) := by decide +kernel
theorem d_Mg_back_11 : decode m_Mg_back.2.1 11 = .ok (.aload_n 0, 1) := by decide +kernel
theorem d_Mg_back_12 : decode m_Mg_back.2.1 12 = .ok (.getfield 30, 3) := by decide +kernel
theorem d_Mg_back_15 : decode m_Mg_back.2.1 15 = .ok (.getfield 195, 3) := by decide +kernel
theorem d_Mg_back_18 : decode m_Mg_back.2.1 18 = .ok (.getfield 198, 3) := by decide +kernel
theorem d_Mg_back_21 : decode m_Mg_back.2.1 21 = .ok (.invokevirtual 174, 3) := by decide +kernel
theorem d_Mg_back_24 : decode m_Mg_back.2.1 24 = .ok (.goto 9, 3) := by decide +kernel
abbrev m_Mg_weave : aw_MI := (⟨"MaypoleGreen", "weave", "()I"⟩, prog_1_method_21_code, 2, some .int)
theorem k_Mg_weave : aw_K m_Mg_weave 0 := ⟨aw_in 916 (by decide +kernel) rfl, aw_in 1 (by decide +kernel) rfl, ⟨by decide, by decide, by decide +kernel⟩, by decide, by decide +kernel⟩
theorem d_Mg_weave_0 : decode m_Mg_weave.2.1 0 = .ok (.aload_n 0, 1) := by decide +kernel
theorem d_Mg_weave_1 : decode m_Mg_weave.2.1 1 = .ok (.getfield 30, 3) := by decide +kernel
theorem d_Mg_weave_4 : decode m_Mg_weave.2.1 4 = .ok (.iconst 1, 1) := by decide +kernel
theorem d_Mg_weave_5 : decode m_Mg_weave.2.1 5 = .ok (.invokevirtual 285, 3) := by decide +kernel
theorem lk_Mg_285 : Cond.methodLink "MaypoleGreen" 285 m_Gr_weaveTimes.1 ∈ aw_T := aw_in 917 (by decide +kernel) rfl
theorem d_Mg_weave_8 : decode m_Mg_weave.2.1 8 = .ok (.istore_n 1, 1) := by decide +kernel
theorem d_Mg_weave_9 : decode m_Mg_weave.2.1 9 = .ok (.iload_n 1, 1) := by decide +kernel
theorem d_Mg_weave_10 : decode m_Mg_weave.2.1 10 = .ok (.ifCond .ne 12, 3) := by decide +kernel
theorem d_Mg_weave_22 : decode m_Mg_weave.2.1 22 = .ok (.aload_n 0, 1) := by decide +kernel
theorem d_Mg_weave_23 : decode m_Mg_weave.2.1 23 = .ok (.iload_n 1, 1) := by decide +kernel
theorem d_Mg_weave_24 : decode m_Mg_weave.2.1 24 = .ok (.invokevirtual 174, 3) := by decide +kernel
theorem d_Mg_weave_27 : decode m_Mg_weave.2.1 27 = .ok (.ireturn, 1) := by decide +kernel
theorem d_Mg_weave_13 : decode m_Mg_weave.2.1 13 = .ok (.aload_n 0, 1) := by decide +kernel
theorem d_Mg_weave_14 : decode m_Mg_weave.2.1 14 = .ok (.bipush 7, 2) := by decide +kernel
theorem d_Mg_weave_16 : decode m_Mg_weave.2.1 16 = .ok (.invokevirtual 133, 3) := by decide +kernel
theorem d_Mg_weave_19 : decode m_Mg_weave.2.1 19 = .ok (.goto 8, 3) := by decide +kernel
abbrev m_Mg_paint : aw_MI := (⟨"MaypoleGreen", "paint", "(II)I"⟩, prog_1_method_22_code, 4, some .int)
theorem k_Mg_paint : aw_K m_Mg_paint 2 := ⟨aw_in 926 (by decide +kernel) rfl, aw_in 1 (by decide +kernel) rfl, ⟨by decide, by decide, by decide +kernel⟩, by decide, by decide +kernel⟩
theorem d_Mg_paint_0 : decode m_Mg_paint.2.1 0 = .ok (.aload_n 0, 1) := by decide +kernel
theorem d_Mg_paint_1 : decode m_Mg_paint.2.1 1 = .ok (.iload_n 1, 1) := by decide +kernel
theorem d_Mg_paint_2 : decode m_Mg_paint.2.1 2 = .ok (.invokevirtual 225, 3) := by decide +kernel
theorem d_Mg_paint_5 : decode m_Mg_paint.2.1 5 = .ok (.ifCond .eq 12, 3) := by decide +kernel
theorem d_Mg_paint_17 : decode m_Mg_paint.2.1 17 = .ok (.aload_n 0, 1) := by decide +kernel
theorem d_Mg_paint_18 : decode m_Mg_paint.2.1 18 = .ok (.iconst 1, 1) := by decide +kernel
theorem d_Mg_paint_19 : decode m_Mg_paint.2.1 19 = .ok (.invokevirtual 133, 3) := by decide +kernel
theorem d_Mg_paint_22 : decode m_Mg_paint.2.1 22 = .ok (.ireturn, 1) := by decide +kernel
theorem d_Mg_paint_8 : decode m_Mg_paint.2.1 8 = .ok (.iload_n 2, 1) := by decide +kernel
theorem d_Mg_paint_9 : decode m_Mg_paint.2.1 9 = .ok (.iconst 0, 1) := by decide +kernel
theorem d_Mg_paint_10 : decode m_Mg_paint.2.1 10 = .ok (.iconst 5, 1) := by decide +kernel
theorem d_Mg_paint_11 : decode m_Mg_paint.2.1 11 = .ok (.invokestatic 110, 3) := by decide +kernel
theorem d_Mg_paint_14 : decode m_Mg_paint.2.1 14 = .ok (.ifCond .ne 9, 3) := by decide +kernel
theorem d_Mg_paint_23 : decode m_Mg_paint.2.1 23 = .ok (.aload_n 0, 1) := by decide +kernel
theorem d_Mg_paint_24 : decode m_Mg_paint.2.1 24 = .ok (.getfield 30, 3) := by decide +kernel
theorem d_Mg_paint_27 : decode m_Mg_paint.2.1 27 = .ok (.getfield 231, 3) := by decide +kernel
theorem d_Mg_paint_30 : decode m_Mg_paint.2.1 30 = .ok (.iload_n 1, 1) := by decide +kernel
theorem d_Mg_paint_31 : decode m_Mg_paint.2.1 31 = .ok (.iaload, 1) := by decide +kernel
theorem d_Mg_paint_32 : decode m_Mg_paint.2.1 32 = .ok (.istore_n 3, 1) := by decide +kernel
theorem d_Mg_paint_33 : decode m_Mg_paint.2.1 33 = .ok (.aload_n 0, 1) := by decide +kernel
theorem d_Mg_paint_34 : decode m_Mg_paint.2.1 34 = .ok (.getfield 30, 3) := by decide +kernel
theorem d_Mg_paint_37 : decode m_Mg_paint.2.1 37 = .ok (.getfield 231, 3) := by decide +kernel
theorem d_Mg_paint_40 : decode m_Mg_paint.2.1 40 = .ok (.iload_n 1, 1) := by decide +kernel
theorem d_Mg_paint_41 : decode m_Mg_paint.2.1 41 = .ok (.iload_n 2, 1) := by decide +kernel
theorem d_Mg_paint_42 : decode m_Mg_paint.2.1 42 = .ok (.iastore, 1) := by decide +kernel
theorem d_Mg_paint_43 : decode m_Mg_paint.2.1 43 = .ok (.aload_n 0, 1) := by decide +kernel
theorem d_Mg_paint_44 : decode m_Mg_paint.2.1 44 = .ok (.iload_n 3, 1) := by decide +kernel
theorem d_Mg_paint_45 : decode m_Mg_paint.2.1 45 = .ok (.invokevirtual 174, 3) := by decide +kernel
theorem d_Mg_paint_48 : decode m_Mg_paint.2.1 48 = .ok (.ireturn, 1) := by decide +kernel
abbrev m_Mg_trade : aw_MI := (⟨"MaypoleGreen", "trade", "(II)Z"⟩, prog_1_method_23_code, 4, some .boolean)
theorem k_Mg_trade : aw_K m_Mg_trade 2 := ⟨aw_in 930 (by decide +kernel) rfl, aw_in 1 (by decide +kernel) rfl, ⟨by decide, by decide, by decide +kernel⟩, by decide, by decide +kernel⟩
theorem d_Mg_trade_0 : decode m_Mg_trade.2.1 0 = .ok (.aload_n 0, 1) := by decide +kernel
theorem d_Mg_trade_1 : decode m_Mg_trade.2.1 1 = .ok (.iload_n 1, 1) := by decide +kernel
theorem d_Mg_trade_2 : decode m_Mg_trade.2.1 2 = .ok (.iload_n 2, 1) := by decide +kernel
theorem d_Mg_trade_3 : decode m_Mg_trade.2.1 3 = .ok (.invokevirtual 288, 3) := by decide +kernel
abbrev m_Mg_areTwo : aw_MI := (⟨"MaypoleGreen", "areTwo", "(II)Z"⟩, prog_1_method_57_code, 3, some .boolean)
theorem lk_Mg_288 : Cond.methodLink "MaypoleGreen" 288 m_Mg_areTwo.1 ∈ aw_T := aw_in 931 (by decide +kernel) rfl
theorem k_Mg_areTwo : aw_K m_Mg_areTwo 2 := ⟨aw_in 934 (by decide +kernel) rfl, aw_in 1 (by decide +kernel) rfl, ⟨by decide, by decide, by decide +kernel⟩, by decide, by decide +kernel⟩
theorem in_Mg_areTwo : Cond.instanceMethod m_Mg_areTwo.1 ∈ aw_T := aw_in 933 (by decide +kernel) rfl
theorem se_Mg_areTwo : Cond.selects m_Mg_areTwo.1.cls m_Mg_areTwo.1 m_Mg_areTwo.1 ∈ aw_T := aw_inP 32 (by decide +kernel) rfl
theorem d_Mg_trade_6 : decode m_Mg_trade.2.1 6 = .ok (.ifCond .ne 9, 3) := by decide +kernel
theorem d_Mg_trade_15 : decode m_Mg_trade.2.1 15 = .ok (.aload_n 0, 1) := by decide +kernel
theorem d_Mg_trade_16 : decode m_Mg_trade.2.1 16 = .ok (.getfield 30, 3) := by decide +kernel
theorem d_Mg_trade_19 : decode m_Mg_trade.2.1 19 = .ok (.getfield 231, 3) := by decide +kernel
theorem d_Mg_trade_22 : decode m_Mg_trade.2.1 22 = .ok (.iload_n 1, 1) := by decide +kernel
theorem d_Mg_trade_23 : decode m_Mg_trade.2.1 23 = .ok (.iaload, 1) := by decide +kernel
theorem d_Mg_trade_24 : decode m_Mg_trade.2.1 24 = .ok (.istore_n 3, 1) := by decide +kernel
theorem d_Mg_trade_25 : decode m_Mg_trade.2.1 25 = .ok (.iload_n 3, 1) := by decide +kernel
theorem d_Mg_trade_26 : decode m_Mg_trade.2.1 26 = .ok (.aload_n 0, 1) := by decide +kernel
theorem d_Mg_trade_27 : decode m_Mg_trade.2.1 27 = .ok (.getfield 30, 3) := by decide +kernel
theorem d_Mg_trade_30 : decode m_Mg_trade.2.1 30 = .ok (.getfield 231, 3) := by decide +kernel
theorem d_Mg_trade_33 : decode m_Mg_trade.2.1 33 = .ok (.iload_n 2, 1) := by decide +kernel
theorem d_Mg_trade_34 : decode m_Mg_trade.2.1 34 = .ok (.iaload, 1) := by decide +kernel
theorem d_Mg_trade_35 : decode m_Mg_trade.2.1 35 = .ok (.if_icmp .ne 10, 3) := by decide +kernel
theorem d_Mg_trade_45 : decode m_Mg_trade.2.1 45 = .ok (.aload_n 0, 1) := by decide +kernel
theorem d_Mg_trade_46 : decode m_Mg_trade.2.1 46 = .ok (.getfield 30, 3) := by decide +kernel
theorem d_Mg_trade_49 : decode m_Mg_trade.2.1 49 = .ok (.getfield 231, 3) := by decide +kernel
theorem d_Mg_trade_52 : decode m_Mg_trade.2.1 52 = .ok (.iload_n 1, 1) := by decide +kernel
theorem d_Mg_trade_53 : decode m_Mg_trade.2.1 53 = .ok (.aload_n 0, 1) := by decide +kernel
theorem d_Mg_trade_54 : decode m_Mg_trade.2.1 54 = .ok (.getfield 30, 3) := by decide +kernel
theorem d_Mg_trade_57 : decode m_Mg_trade.2.1 57 = .ok (.getfield 231, 3) := by decide +kernel
theorem d_Mg_trade_60 : decode m_Mg_trade.2.1 60 = .ok (.iload_n 2, 1) := by decide +kernel
theorem d_Mg_trade_61 : decode m_Mg_trade.2.1 61 = .ok (.iaload, 1) := by decide +kernel
theorem d_Mg_trade_62 : decode m_Mg_trade.2.1 62 = .ok (.iastore, 1) := by decide +kernel
theorem d_Mg_trade_63 : decode m_Mg_trade.2.1 63 = .ok (.aload_n 0, 1) := by decide +kernel
theorem d_Mg_trade_64 : decode m_Mg_trade.2.1 64 = .ok (.getfield 30, 3) := by decide +kernel
theorem d_Mg_trade_67 : decode m_Mg_trade.2.1 67 = .ok (.getfield 231, 3) := by decide +kernel
theorem d_Mg_trade_70 : decode m_Mg_trade.2.1 70 = .ok (.iload_n 2, 1) := by decide +kernel
theorem d_Mg_trade_71 : decode m_Mg_trade.2.1 71 = .ok (.iload_n 3, 1) := by decide +kernel
theorem d_Mg_trade_72 : decode m_Mg_trade.2.1 72 = .ok (.iastore, 1) := by decide +kernel
theorem d_Mg_trade_73 : decode m_Mg_trade.2.1 73 = .ok (.aload_n 0, 1) := by decide +kernel
theorem d_Mg_trade_74 : decode m_Mg_trade.2.1 74 = .ok (.invokevirtual 121, 3) := by decide +kernel
theorem d_Mg_trade_77 : decode m_Mg_trade.2.1 77 = .ok (.ireturn, 1) := by decide +kernel
theorem d_Mg_trade_38 : decode m_Mg_trade.2.1 38 = .ok (.aload_n 0, 1) := by decide +kernel
theorem d_Mg_trade_39 : decode m_Mg_trade.2.1 39 = .ok (.bipush 7, 2) := by decide +kernel
theorem d_Mg_trade_41 : decode m_Mg_trade.2.1 41 = .ok (.invokevirtual 114, 3) := by decide +kernel
theorem d_Mg_trade_44 : decode m_Mg_trade.2.1 44 = .ok (.ireturn, 1) := by decide +kernel
theorem d_Mg_trade_9 : decode m_Mg_trade.2.1 9 = .ok (.aload_n 0, 1) := by decide +kernel
theorem d_Mg_trade_10 : decode m_Mg_trade.2.1 10 = .ok (.iconst 1, 1) := by decide +kernel
theorem d_Mg_trade_11 : decode m_Mg_trade.2.1 11 = .ok (.invokevirtual 114, 3) := by decide +kernel
theorem d_Mg_trade_14 : decode m_Mg_trade.2.1 14 = .ok (.ireturn, 1) := by decide +kernel
theorem d_Mg_areTwo_0 : decode m_Mg_areTwo.2.1 0 = .ok (.aload_n 0, 1) := by decide +kernel
theorem d_Mg_areTwo_1 : decode m_Mg_areTwo.2.1 1 = .ok (.iload_n 1, 1) := by decide +kernel
theorem d_Mg_areTwo_2 : decode m_Mg_areTwo.2.1 2 = .ok (.invokevirtual 225, 3) := by decide +kernel
theorem d_Mg_areTwo_5 : decode m_Mg_areTwo.2.1 5 = .ok (.ifCond .eq 20, 3) := by decide +kernel
theorem d_Mg_areTwo_25 : decode m_Mg_areTwo.2.1 25 = .ok (.iconst 0, 1) := by decide +kernel
theorem d_Mg_areTwo_26 : decode m_Mg_areTwo.2.1 26 = .ok (.ireturn, 1) := by decide +kernel
theorem d_Mg_areTwo_8 : decode m_Mg_areTwo.2.1 8 = .ok (.aload_n 0, 1) := by decide +kernel
theorem d_Mg_areTwo_9 : decode m_Mg_areTwo.2.1 9 = .ok (.iload_n 2, 1) := by decide +kernel
theorem d_Mg_areTwo_10 : decode m_Mg_areTwo.2.1 10 = .ok (.invokevirtual 225, 3) := by decide +kernel
theorem d_Mg_areTwo_13 : decode m_Mg_areTwo.2.1 13 = .ok (.ifCond .eq 12, 3) := by decide +kernel
theorem d_Mg_areTwo_16 : decode m_Mg_areTwo.2.1 16 = .ok (.iload_n 1, 1) := by decide +kernel
theorem d_Mg_areTwo_17 : decode m_Mg_areTwo.2.1 17 = .ok (.iload_n 2, 1) := by decide +kernel
theorem d_Mg_areTwo_18 : decode m_Mg_areTwo.2.1 18 = .ok (.if_icmp .eq 7, 3) := by decide +kernel
theorem d_Mg_areTwo_21 : decode m_Mg_areTwo.2.1 21 = .ok (.iconst 1, 1) := by decide +kernel
theorem d_Mg_areTwo_22 : decode m_Mg_areTwo.2.1 22 = .ok (.goto 4, 3) := by decide +kernel
abbrev m_Mg_come : aw_MI := (⟨"MaypoleGreen", "come", "(I)I"⟩, prog_1_method_24_code, 2, some .int)
theorem k_Mg_come : aw_K m_Mg_come 1 := ⟨aw_in 938 (by decide +kernel) rfl, aw_in 1 (by decide +kernel) rfl, ⟨by decide, by decide, by decide +kernel⟩, by decide, by decide +kernel⟩
theorem d_Mg_come_0 : decode m_Mg_come.2.1 0 = .ok (.iload_n 1, 1) := by decide +kernel
theorem d_Mg_come_1 : decode m_Mg_come.2.1 1 = .ok (.iconst 0, 1) := by decide +kernel
theorem d_Mg_come_2 : decode m_Mg_come.2.1 2 = .ok (.iconst 5, 1) := by decide +kernel
theorem d_Mg_come_3 : decode m_Mg_come.2.1 3 = .ok (.invokestatic 110, 3) := by decide +kernel
theorem d_Mg_come_6 : decode m_Mg_come.2.1 6 = .ok (.ifCond .ne 9, 3) := by decide +kernel
theorem d_Mg_come_15 : decode m_Mg_come.2.1 15 = .ok (.aload_n 0, 1) := by decide +kernel
theorem d_Mg_come_16 : decode m_Mg_come.2.1 16 = .ok (.getfield 30, 3) := by decide +kernel
theorem d_Mg_come_19 : decode m_Mg_come.2.1 19 = .ok (.getfield 171, 3) := by decide +kernel
theorem d_Mg_come_22 : decode m_Mg_come.2.1 22 = .ok (.bipush 7, 2) := by decide +kernel
theorem d_Mg_come_24 : decode m_Mg_come.2.1 24 = .ok (.if_icmp .lt 9, 3) := by decide +kernel
theorem d_Mg_come_33 : decode m_Mg_come.2.1 33 = .ok (.aload_n 0, 1) := by decide +kernel
theorem d_Mg_come_34 : decode m_Mg_come.2.1 34 = .ok (.getfield 30, 3) := by decide +kernel
theorem d_Mg_come_37 : decode m_Mg_come.2.1 37 = .ok (.getfield 195, 3) := by decide +kernel
theorem d_Mg_come_40 : decode m_Mg_come.2.1 40 = .ok (.getfield 198, 3) := by decide +kernel
theorem d_Mg_come_43 : decode m_Mg_come.2.1 43 = .ok (.ifCond .gt 24, 3) := by decide +kernel
theorem d_Mg_come_67 : decode m_Mg_come.2.1 67 = .ok (.aload_n 0, 1) := by decide +kernel
theorem d_Mg_come_68 : decode m_Mg_come.2.1 68 = .ok (.bipush 7, 2) := by decide +kernel
theorem d_Mg_come_70 : decode m_Mg_come.2.1 70 = .ok (.invokevirtual 133, 3) := by decide +kernel
theorem d_Mg_come_73 : decode m_Mg_come.2.1 73 = .ok (.ireturn, 1) := by decide +kernel
theorem d_Mg_come_46 : decode m_Mg_come.2.1 46 = .ok (.aload_n 0, 1) := by decide +kernel
theorem d_Mg_come_47 : decode m_Mg_come.2.1 47 = .ok (.getfield 30, 3) := by decide +kernel
theorem d_Mg_come_50 : decode m_Mg_come.2.1 50 = .ok (.invokevirtual 216, 3) := by decide +kernel
theorem d_Mg_come_53 : decode m_Mg_come.2.1 53 = .ok (.iconst 1, 1) := by decide +kernel
theorem d_Mg_come_54 : decode m_Mg_come.2.1 54 = .ok (.aload_n 0, 1) := by decide +kernel
theorem d_Mg_come_55 : decode m_Mg_come.2.1 55 = .ok (.getfield 30, 3) := by decide +kernel
theorem d_Mg_come_58 : decode m_Mg_come.2.1 58 = .ok (.getfield 171, 3) := by decide +kernel
theorem d_Mg_come_61 : decode m_Mg_come.2.1 61 = .ok (.ishl, 1) := by decide +kernel
theorem d_Mg_come_62 : decode m_Mg_come.2.1 62 = .ok (.iconst 1, 1) := by decide +kernel
theorem d_Mg_come_63 : decode m_Mg_come.2.1 63 = .ok (.isub, 1) := by decide +kernel
theorem d_Mg_come_64 : decode m_Mg_come.2.1 64 = .ok (.if_icmp .eq 10, 3) := by decide +kernel
theorem d_Mg_come_74 : decode m_Mg_come.2.1 74 = .ok (.aload_n 0, 1) := by decide +kernel
theorem d_Mg_come_75 : decode m_Mg_come.2.1 75 = .ok (.getfield 30, 3) := by decide +kernel
theorem d_Mg_come_78 : decode m_Mg_come.2.1 78 = .ok (.lconst 0, 1) := by decide +kernel
theorem d_Mg_come_79 : decode m_Mg_come.2.1 79 = .ok (.iload_n 1, 1) := by decide +kernel
theorem d_Mg_come_80 : decode m_Mg_come.2.1 80 = .ok (.invokevirtual 291, 3) := by decide +kernel
theorem lk_Mg_291 : Cond.methodLink "MaypoleGreen" 291 m_Gr_join.1 ∈ aw_T := aw_in 939 (by decide +kernel) rfl
theorem d_Mg_come_83 : decode m_Mg_come.2.1 83 = .ok (.aload_n 0, 1) := by decide +kernel
theorem d_Mg_come_84 : decode m_Mg_come.2.1 84 = .ok (.aload_n 0, 1) := by decide +kernel
theorem d_Mg_come_85 : decode m_Mg_come.2.1 85 = .ok (.getfield 30, 3) := by decide +kernel
theorem d_Mg_come_88 : decode m_Mg_come.2.1 88 = .ok (.getfield 171, 3) := by decide +kernel
theorem d_Mg_come_91 : decode m_Mg_come.2.1 91 = .ok (.iconst 1, 1) := by decide +kernel
theorem d_Mg_come_92 : decode m_Mg_come.2.1 92 = .ok (.isub, 1) := by decide +kernel
theorem d_Mg_come_93 : decode m_Mg_come.2.1 93 = .ok (.invokevirtual 174, 3) := by decide +kernel
theorem d_Mg_come_96 : decode m_Mg_come.2.1 96 = .ok (.ireturn, 1) := by decide +kernel
theorem d_Mg_come_27 : decode m_Mg_come.2.1 27 = .ok (.aload_n 0, 1) := by decide +kernel
theorem d_Mg_come_28 : decode m_Mg_come.2.1 28 = .ok (.iconst 4, 1) := by decide +kernel
theorem d_Mg_come_29 : decode m_Mg_come.2.1 29 = .ok (.invokevirtual 133, 3) := by decide +kernel
theorem d_Mg_come_32 : decode m_Mg_come.2.1 32 = .ok (.ireturn, 1) := by decide +kernel
theorem d_Mg_come_9 : decode m_Mg_come.2.1 9 = .ok (.aload_n 0, 1) := by decide +kernel
theorem d_Mg_come_10 : decode m_Mg_come.2.1 10 = .ok (.iconst 1, 1) := by decide +kernel
theorem d_Mg_come_11 : decode m_Mg_come.2.1 11 = .ok (.invokevirtual 133, 3) := by decide +kernel
theorem d_Mg_come_14 : decode m_Mg_come.2.1 14 = .ok (.ireturn, 1) := by decide +kernel
abbrev m_Mg_rule : aw_MI := (⟨"MaypoleGreen", "rule", "(II)Z"⟩, prog_1_method_25_code, 3, some .boolean)
theorem k_Mg_rule : aw_K m_Mg_rule 2 := ⟨aw_in 943 (by decide +kernel) rfl, aw_in 1 (by decide +kernel) rfl, ⟨by decide, by decide, by decide +kernel⟩, by decide, by decide +kernel⟩
theorem d_Mg_rule_0 : decode m_Mg_rule.2.1 0 = .ok (.iload_n 1, 1) := by decide +kernel
theorem d_Mg_rule_1 : decode m_Mg_rule.2.1 1 = .ok (.iconst 3, 1) := by decide +kernel
theorem d_Mg_rule_2 : decode m_Mg_rule.2.1 2 = .ok (.if_icmp .ne 26, 3) := by decide +kernel
theorem d_Mg_rule_28 : decode m_Mg_rule.2.1 28 = .ok (.iload_n 1, 1) := by decide +kernel
theorem d_Mg_rule_29 : decode m_Mg_rule.2.1 29 = .ok (.iconst 4, 1) := by decide +kernel
theorem d_Mg_rule_30 : decode m_Mg_rule.2.1 30 = .ok (.if_icmp .ne 26, 3) := by decide +kernel
theorem d_Mg_rule_56 : decode m_Mg_rule.2.1 56 = .ok (.aload_n 0, 1) := by decide +kernel
theorem d_Mg_rule_57 : decode m_Mg_rule.2.1 57 = .ok (.iconst 1, 1) := by decide +kernel
theorem d_Mg_rule_58 : decode m_Mg_rule.2.1 58 = .ok (.invokevirtual 114, 3) := by decide +kernel
theorem d_Mg_rule_61 : decode m_Mg_rule.2.1 61 = .ok (.ireturn, 1) := by decide +kernel
theorem d_Mg_rule_33 : decode m_Mg_rule.2.1 33 = .ok (.iload_n 2, 1) := by decide +kernel
theorem d_Mg_rule_34 : decode m_Mg_rule.2.1 34 = .ok (.iconst 1, 1) := by decide +kernel
theorem d_Mg_rule_35 : decode m_Mg_rule.2.1 35 = .ok (.bipush 40, 2) := by decide +kernel
theorem d_Mg_rule_37 : decode m_Mg_rule.2.1 37 = .ok (.invokestatic 110, 3) := by decide +kernel
theorem d_Mg_rule_40 : decode m_Mg_rule.2.1 40 = .ok (.ifCond .eq 16, 3) := by decide +kernel
theorem d_Mg_rule_43 : decode m_Mg_rule.2.1 43 = .ok (.aload_n 0, 1) := by decide +kernel
theorem d_Mg_rule_44 : decode m_Mg_rule.2.1 44 = .ok (.getfield 30, 3) := by decide +kernel
theorem d_Mg_rule_47 : decode m_Mg_rule.2.1 47 = .ok (.iload_n 2, 1) := by decide +kernel
theorem d_Mg_rule_48 : decode m_Mg_rule.2.1 48 = .ok (.putfield 204, 3) := by decide +kernel
theorem d_Mg_rule_51 : decode m_Mg_rule.2.1 51 = .ok (.aload_n 0, 1) := by decide +kernel
theorem d_Mg_rule_52 : decode m_Mg_rule.2.1 52 = .ok (.invokevirtual 121, 3) := by decide +kernel
theorem d_Mg_rule_55 : decode m_Mg_rule.2.1 55 = .ok (.ireturn, 1) := by decide +kernel
theorem d_Mg_rule_5 : decode m_Mg_rule.2.1 5 = .ok (.iload_n 2, 1) := by decide +kernel
theorem d_Mg_rule_6 : decode m_Mg_rule.2.1 6 = .ok (.iconst 0, 1) := by decide +kernel
theorem d_Mg_rule_7 : decode m_Mg_rule.2.1 7 = .ok (.bipush 16, 2) := by decide +kernel
theorem d_Mg_rule_9 : decode m_Mg_rule.2.1 9 = .ok (.invokestatic 110, 3) := by decide +kernel
theorem d_Mg_rule_12 : decode m_Mg_rule.2.1 12 = .ok (.ifCond .eq 16, 3) := by decide +kernel
theorem d_Mg_rule_15 : decode m_Mg_rule.2.1 15 = .ok (.aload_n 0, 1) := by decide +kernel
theorem d_Mg_rule_16 : decode m_Mg_rule.2.1 16 = .ok (.getfield 30, 3) := by decide +kernel
theorem d_Mg_rule_19 : decode m_Mg_rule.2.1 19 = .ok (.iload_n 2, 1) := by decide +kernel
theorem d_Mg_rule_20 : decode m_Mg_rule.2.1 20 = .ok (.putfield 201, 3) := by decide +kernel
theorem d_Mg_rule_23 : decode m_Mg_rule.2.1 23 = .ok (.aload_n 0, 1) := by decide +kernel
theorem d_Mg_rule_24 : decode m_Mg_rule.2.1 24 = .ok (.invokevirtual 121, 3) := by decide +kernel
theorem d_Mg_rule_27 : decode m_Mg_rule.2.1 27 = .ok (.ireturn, 1) := by decide +kernel
abbrev m_Mg_bound : aw_MI := (⟨"MaypoleGreen", "bound", "(I)I"⟩, prog_1_method_26_code, 2, some .int)
theorem k_Mg_bound : aw_K m_Mg_bound 1 := ⟨aw_in 947 (by decide +kernel) rfl, aw_in 1 (by decide +kernel) rfl, ⟨by decide, by decide, by decide +kernel⟩, by decide, by decide +kernel⟩
theorem d_Mg_bound_0 : decode m_Mg_bound.2.1 0 = .ok (.aload_n 0, 1) := by decide +kernel
theorem d_Mg_bound_1 : decode m_Mg_bound.2.1 1 = .ok (.iload_n 1, 1) := by decide +kernel
theorem d_Mg_bound_2 : decode m_Mg_bound.2.1 2 = .ok (.invokevirtual 225, 3) := by decide +kernel
theorem d_Mg_bound_5 : decode m_Mg_bound.2.1 5 = .ok (.ifCond .eq 19, 3) := by decide +kernel
theorem d_Mg_bound_24 : decode m_Mg_bound.2.1 24 = .ok (.aload_n 0, 1) := by decide +kernel
theorem d_Mg_bound_25 : decode m_Mg_bound.2.1 25 = .ok (.iconst 1, 1) := by decide +kernel
theorem d_Mg_bound_26 : decode m_Mg_bound.2.1 26 = .ok (.invokevirtual 133, 3) := by decide +kernel
theorem d_Mg_bound_29 : decode m_Mg_bound.2.1 29 = .ok (.ireturn, 1) := by decide +kernel
theorem d_Mg_bound_8 : decode m_Mg_bound.2.1 8 = .ok (.aload_n 0, 1) := by decide +kernel
theorem d_Mg_bound_9 : decode m_Mg_bound.2.1 9 = .ok (.aload_n 0, 1) := by decide +kernel
theorem d_Mg_bound_10 : decode m_Mg_bound.2.1 10 = .ok (.getfield 30, 3) := by decide +kernel
theorem d_Mg_bound_13 : decode m_Mg_bound.2.1 13 = .ok (.iconst (-1), 1) := by decide +kernel
theorem d_Mg_bound_14 : decode m_Mg_bound.2.1 14 = .ok (.iload_n 1, 1) := by decide +kernel
theorem d_Mg_bound_15 : decode m_Mg_bound.2.1 15 = .ok (.invokevirtual 267, 3) := by decide +kernel
theorem d_Mg_bound_18 : decode m_Mg_bound.2.1 18 = .ok (.invokevirtual 174, 3) := by decide +kernel
theorem d_Mg_bound_21 : decode m_Mg_bound.2.1 21 = .ok (.goto 8, 3) := by decide +kernel
abbrev m_Mg_homeward : aw_MI := (⟨"MaypoleGreen", "homeward", "()I"⟩, prog_1_method_27_code, 1, some .int)
theorem k_Mg_homeward : aw_K m_Mg_homeward 0 := ⟨aw_in 951 (by decide +kernel) rfl, aw_in 1 (by decide +kernel) rfl, ⟨by decide, by decide, by decide +kernel⟩, by decide, by decide +kernel⟩
theorem d_Mg_homeward_0 : decode m_Mg_homeward.2.1 0 = .ok (.aload_n 0, 1) := by decide +kernel
theorem d_Mg_homeward_1 : decode m_Mg_homeward.2.1 1 = .ok (.aload_n 0, 1) := by decide +kernel
theorem d_Mg_homeward_2 : decode m_Mg_homeward.2.1 2 = .ok (.getfield 69, 3) := by decide +kernel
theorem f_Mg_69 : aw_F "MaypoleGreen" 69 0 15 true := ⟨cR0, cT0, 19, fun k => cY0.getD k .int, rfl, ci0, cy0, cn0, rfl, by decide, aw_in 438 (by decide +kernel) rfl, rfl, rfl, rfl⟩
theorem d_Mg_homeward_5 : decode m_Mg_homeward.2.1 5 = .ok (.aload_n 0, 1) := by decide +kernel
theorem d_Mg_homeward_6 : decode m_Mg_homeward.2.1 6 = .ok (.getfield 30, 3) := by decide +kernel
theorem d_Mg_homeward_9 : decode m_Mg_homeward.2.1 9 = .ok (.invokevirtual 295, 3) := by decide +kernel
theorem lk_Mg_295 : Cond.methodLink "MaypoleGreen" 295 m_Ho_fewest.1 ∈ aw_T := aw_in 952 (by decide +kernel) rfl
theorem d_Mg_homeward_12 : decode m_Mg_homeward.2.1 12 = .ok (.invokevirtual 174, 3) := by decide +kernel
theorem d_Mg_homeward_15 : decode m_Mg_homeward.2.1 15 = .ok (.ireturn, 1) := by decide +kernel
abbrev m_Mg_homewardAt : aw_MI := (⟨"MaypoleGreen", "homewardAt", "(I)I"⟩, prog_1_method_28_code, 3, some .int)
theorem k_Mg_homewardAt : aw_K m_Mg_homewardAt 1 := ⟨aw_in 974 (by decide +kernel) rfl, aw_in 1 (by decide +kernel) rfl, ⟨by decide, by decide, by decide +kernel⟩, by decide, by decide +kernel⟩
theorem d_Mg_homewardAt_0 : decode m_Mg_homewardAt.2.1 0 = .ok (.iload_n 1, 1) := by decide +kernel
theorem d_Mg_homewardAt_1 : decode m_Mg_homewardAt.2.1 1 = .ok (.ifCond .ge 9, 3) := by decide +kernel
theorem d_Mg_homewardAt_10 : decode m_Mg_homewardAt.2.1 10 = .ok (.aload_n 0, 1) := by decide +kernel
theorem d_Mg_homewardAt_11 : decode m_Mg_homewardAt.2.1 11 = .ok (.getfield 69, 3) := by decide +kernel
theorem d_Mg_homewardAt_14 : decode m_Mg_homewardAt.2.1 14 = .ok (.aload_n 0, 1) := by decide +kernel
theorem d_Mg_homewardAt_15 : decode m_Mg_homewardAt.2.1 15 = .ok (.getfield 30, 3) := by decide +kernel
theorem d_Mg_homewardAt_18 : decode m_Mg_homewardAt.2.1 18 = .ok (.iload_n 1, 1) := by decide +kernel
theorem d_Mg_homewardAt_19 : decode m_Mg_homewardAt.2.1 19 = .ok (.invokevirtual 299, 3) := by decide +kernel
theorem lk_Mg_299 : Cond.methodLink "MaypoleGreen" 299 m_Ho_gapOnWay.1 ∈ aw_T := aw_in 975 (by decide +kernel) rfl
theorem in_Ho_gapOnWay : Cond.instanceMethod m_Ho_gapOnWay.1 ∈ aw_T := aw_in 976 (by decide +kernel) rfl
theorem se_Ho_gapOnWay : Cond.selects m_Ho_gapOnWay.1.cls m_Ho_gapOnWay.1 m_Ho_gapOnWay.1 ∈ aw_T := aw_in 977 (by decide +kernel) rfl
theorem d_Mg_homewardAt_22 : decode m_Mg_homewardAt.2.1 22 = .ok (.istore_n 2, 1) := by decide +kernel
theorem d_Mg_homewardAt_23 : decode m_Mg_homewardAt.2.1 23 = .ok (.iload_n 2, 1) := by decide +kernel
theorem d_Mg_homewardAt_24 : decode m_Mg_homewardAt.2.1 24 = .ok (.iconst (-1), 1) := by decide +kernel
theorem d_Mg_homewardAt_25 : decode m_Mg_homewardAt.2.1 25 = .ok (.if_icmp .ne 12, 3) := by decide +kernel
theorem d_Mg_homewardAt_37 : decode m_Mg_homewardAt.2.1 37 = .ok (.aload_n 0, 1) := by decide +kernel
theorem d_Mg_homewardAt_38 : decode m_Mg_homewardAt.2.1 38 = .ok (.iload_n 2, 1) := by decide +kernel
theorem d_Mg_homewardAt_39 : decode m_Mg_homewardAt.2.1 39 = .ok (.invokevirtual 174, 3) := by decide +kernel
theorem d_Mg_homewardAt_42 : decode m_Mg_homewardAt.2.1 42 = .ok (.ireturn, 1) := by decide +kernel
theorem d_Mg_homewardAt_28 : decode m_Mg_homewardAt.2.1 28 = .ok (.aload_n 0, 1) := by decide +kernel
theorem d_Mg_homewardAt_29 : decode m_Mg_homewardAt.2.1 29 = .ok (.bipush 6, 2) := by decide +kernel
theorem d_Mg_homewardAt_31 : decode m_Mg_homewardAt.2.1 31 = .ok (.invokevirtual 133, 3) := by decide +kernel
theorem d_Mg_homewardAt_34 : decode m_Mg_homewardAt.2.1 34 = .ok (.goto 8, 3) := by decide +kernel
theorem d_Mg_homewardAt_4 : decode m_Mg_homewardAt.2.1 4 = .ok (.aload_n 0, 1) := by decide +kernel
theorem d_Mg_homewardAt_5 : decode m_Mg_homewardAt.2.1 5 = .ok (.iconst 1, 1) := by decide +kernel
theorem d_Mg_homewardAt_6 : decode m_Mg_homewardAt.2.1 6 = .ok (.invokevirtual 133, 3) := by decide +kernel
theorem d_Mg_homewardAt_9 : decode m_Mg_homewardAt.2.1 9 = .ok (.ireturn, 1) := by decide +kernel
abbrev m_Mg_meet : aw_MI := (⟨"MaypoleGreen", "meet", "(II)I"⟩, prog_1_method_29_code, 4, some .int)
theorem k_Mg_meet : aw_K m_Mg_meet 2 := ⟨aw_in 993 (by decide +kernel) rfl, aw_in 1 (by decide +kernel) rfl, ⟨by decide, by decide, by decide +kernel⟩, by decide, by decide +kernel⟩
theorem d_Mg_meet_0 : decode m_Mg_meet.2.1 0 = .ok (.aload_n 0, 1) := by decide +kernel
theorem d_Mg_meet_1 : decode m_Mg_meet.2.1 1 = .ok (.iload_n 1, 1) := by decide +kernel
theorem d_Mg_meet_2 : decode m_Mg_meet.2.1 2 = .ok (.iload_n 2, 1) := by decide +kernel
theorem d_Mg_meet_3 : decode m_Mg_meet.2.1 3 = .ok (.invokevirtual 288, 3) := by decide +kernel
theorem d_Mg_meet_6 : decode m_Mg_meet.2.1 6 = .ok (.ifCond .ne 9, 3) := by decide +kernel
theorem d_Mg_meet_15 : decode m_Mg_meet.2.1 15 = .ok (.aload_n 0, 1) := by decide +kernel
theorem d_Mg_meet_16 : decode m_Mg_meet.2.1 16 = .ok (.getfield 30, 3) := by decide +kernel
theorem d_Mg_meet_19 : decode m_Mg_meet.2.1 19 = .ok (.getfield 228, 3) := by decide +kernel
theorem d_Mg_meet_22 : decode m_Mg_meet.2.1 22 = .ok (.iload_n 1, 1) := by decide +kernel
theorem d_Mg_meet_23 : decode m_Mg_meet.2.1 23 = .ok (.iaload, 1) := by decide +kernel
theorem d_Mg_meet_24 : decode m_Mg_meet.2.1 24 = .ok (.aload_n 0, 1) := by decide +kernel
theorem d_Mg_meet_25 : decode m_Mg_meet.2.1 25 = .ok (.getfield 30, 3) := by decide +kernel
theorem d_Mg_meet_28 : decode m_Mg_meet.2.1 28 = .ok (.getfield 228, 3) := by decide +kernel
theorem d_Mg_meet_31 : decode m_Mg_meet.2.1 31 = .ok (.iload_n 2, 1) := by decide +kernel
theorem d_Mg_meet_32 : decode m_Mg_meet.2.1 32 = .ok (.iaload, 1) := by decide +kernel
theorem d_Mg_meet_33 : decode m_Mg_meet.2.1 33 = .ok (.isub, 1) := by decide +kernel
theorem d_Mg_meet_34 : decode m_Mg_meet.2.1 34 = .ok (.invokestatic 303, 3) := by decide +kernel
theorem lk_Mg_303 : Cond.methodLink "MaypoleGreen" 303 m_Ma_abs.1 ∈ aw_T := aw_in 994 (by decide +kernel) rfl
theorem d_Mg_meet_37 : decode m_Mg_meet.2.1 37 = .ok (.istore_n 3, 1) := by decide +kernel
theorem d_Mg_meet_38 : decode m_Mg_meet.2.1 38 = .ok (.aload_n 0, 1) := by decide +kernel
theorem d_Mg_meet_39 : decode m_Mg_meet.2.1 39 = .ok (.iload_n 3, 1) := by decide +kernel
theorem d_Mg_meet_40 : decode m_Mg_meet.2.1 40 = .ok (.aload_n 0, 1) := by decide +kernel
theorem d_Mg_meet_41 : decode m_Mg_meet.2.1 41 = .ok (.getfield 30, 3) := by decide +kernel
theorem d_Mg_meet_44 : decode m_Mg_meet.2.1 44 = .ok (.getfield 171, 3) := by decide +kernel
theorem d_Mg_meet_47 : decode m_Mg_meet.2.1 47 = .ok (.iload_n 3, 1) := by decide +kernel
theorem d_Mg_meet_48 : decode m_Mg_meet.2.1 48 = .ok (.isub, 1) := by decide +kernel
theorem d_Mg_meet_49 : decode m_Mg_meet.2.1 49 = .ok (.invokestatic 308, 3) := by decide +kernel
theorem lk_Mg_308 : Cond.methodLink "MaypoleGreen" 308 m_Ma_min.1 ∈ aw_T := aw_in 995 (by decide +kernel) rfl
theorem d_Mg_meet_52 : decode m_Mg_meet.2.1 52 = .ok (.iconst 1, 1) := by decide +kernel
theorem d_Mg_meet_53 : decode m_Mg_meet.2.1 53 = .ok (.isub, 1) := by decide +kernel
theorem d_Mg_meet_54 : decode m_Mg_meet.2.1 54 = .ok (.invokevirtual 174, 3) := by decide +kernel
theorem d_Mg_meet_57 : decode m_Mg_meet.2.1 57 = .ok (.ireturn, 1) := by decide +kernel
theorem d_Mg_meet_9 : decode m_Mg_meet.2.1 9 = .ok (.aload_n 0, 1) := by decide +kernel
theorem d_Mg_meet_10 : decode m_Mg_meet.2.1 10 = .ok (.iconst 1, 1) := by decide +kernel
theorem d_Mg_meet_11 : decode m_Mg_meet.2.1 11 = .ok (.invokevirtual 133, 3) := by decide +kernel
theorem d_Mg_meet_14 : decode m_Mg_meet.2.1 14 = .ok (.ireturn, 1) := by decide +kernel
abbrev m_Mg_same : aw_MI := (⟨"MaypoleGreen", "same", "(II)I"⟩, prog_1_method_30_code, 4, some .int)
theorem k_Mg_same : aw_K m_Mg_same 2 := ⟨aw_in 1001 (by decide +kernel) rfl, aw_in 1 (by decide +kernel) rfl, ⟨by decide, by decide, by decide +kernel⟩, by decide, by decide +kernel⟩
theorem d_Mg_same_0 : decode m_Mg_same.2.1 0 = .ok (.aload_n 0, 1) := by decide +kernel
theorem d_Mg_same_1 : decode m_Mg_same.2.1 1 = .ok (.iload_n 1, 1) := by decide +kernel
theorem d_Mg_same_2 : decode m_Mg_same.2.1 2 = .ok (.iload_n 2, 1) := by decide +kernel
theorem d_Mg_same_3 : decode m_Mg_same.2.1 3 = .ok (.invokevirtual 311, 3) := by decide +kernel
abbrev m_Mg_danceProblem : aw_MI := (⟨"MaypoleGreen", "danceProblem", "(II)I"⟩, prog_1_method_59_code, 3, some .int)
theorem lk_Mg_311 : Cond.methodLink "MaypoleGreen" 311 m_Mg_danceProblem.1 ∈ aw_T := aw_in 1002 (by decide +kernel) rfl
theorem k_Mg_danceProblem : aw_K m_Mg_danceProblem 2 := ⟨aw_in 1005 (by decide +kernel) rfl, aw_in 1 (by decide +kernel) rfl, ⟨by decide, by decide, by decide +kernel⟩, by decide, by decide +kernel⟩
theorem in_Mg_danceProblem : Cond.instanceMethod m_Mg_danceProblem.1 ∈ aw_T := aw_in 1004 (by decide +kernel) rfl
theorem se_Mg_danceProblem : Cond.selects m_Mg_danceProblem.1.cls m_Mg_danceProblem.1 m_Mg_danceProblem.1 ∈ aw_T := aw_inP 37 (by decide +kernel) rfl
theorem d_Mg_same_6 : decode m_Mg_same.2.1 6 = .ok (.istore_n 3, 1) := by decide +kernel
theorem d_Mg_same_7 : decode m_Mg_same.2.1 7 = .ok (.iload_n 3, 1) := by decide +kernel
theorem d_Mg_same_8 : decode m_Mg_same.2.1 8 = .ok (.ifCond .eq 9, 3) := by decide +kernel
theorem d_Mg_same_17 : decode m_Mg_same.2.1 17 = .ok (.aload_n 0, 1) := by decide +kernel
theorem d_Mg_same_18 : decode m_Mg_same.2.1 18 = .ok (.aload_n 0, 1) := by decide +kernel
theorem d_Mg_same_19 : decode m_Mg_same.2.1 19 = .ok (.aload_n 0, 1) := by decide +kernel
theorem d_Mg_same_20 : decode m_Mg_same.2.1 20 = .ok (.getfield 11, 3) := by decide +kernel
theorem d_Mg_same_23 : decode m_Mg_same.2.1 23 = .ok (.iload_n 1, 1) := by decide +kernel
theorem d_Mg_same_24 : decode m_Mg_same.2.1 24 = .ok (.aaload, 1) := by decide +kernel
theorem d_Mg_same_25 : decode m_Mg_same.2.1 25 = .ok (.iload_n 2, 1) := by decide +kernel
theorem d_Mg_same_26 : decode m_Mg_same.2.1 26 = .ok (.iconst (-1), 1) := by decide +kernel
theorem d_Mg_same_27 : decode m_Mg_same.2.1 27 = .ok (.invokevirtual 314, 3) := by decide +kernel
abbrev m_Mg_passesApart : aw_MI := (⟨"MaypoleGreen", "passesApart", "(LMaypoleGreen$Tray;II)I"⟩, prog_1_method_64_code, 9, some .int)
theorem lk_Mg_314 : Cond.methodLink "MaypoleGreen" 314 m_Mg_passesApart.1 ∈ aw_T := aw_in 1011 (by decide +kernel) rfl
theorem k_Mg_passesApart : aw_K m_Mg_passesApart 3 := ⟨aw_in 1014 (by decide +kernel) rfl, aw_in 1 (by decide +kernel) rfl, ⟨by decide, by decide, by decide +kernel⟩, by decide, by decide +kernel⟩
theorem in_Mg_passesApart : Cond.instanceMethod m_Mg_passesApart.1 ∈ aw_T := aw_in 1013 (by decide +kernel) rfl
theorem se_Mg_passesApart : Cond.selects m_Mg_passesApart.1.cls m_Mg_passesApart.1 m_Mg_passesApart.1 ∈ aw_T := aw_inP 38 (by decide +kernel) rfl
theorem d_Mg_same_30 : decode m_Mg_same.2.1 30 = .ok (.ifCond .ne 7, 3) := by decide +kernel
theorem d_Mg_same_37 : decode m_Mg_same.2.1 37 = .ok (.iconst 0, 1) := by decide +kernel
theorem d_Mg_same_38 : decode m_Mg_same.2.1 38 = .ok (.invokevirtual 174, 3) := by decide +kernel
theorem d_Mg_same_41 : decode m_Mg_same.2.1 41 = .ok (.ireturn, 1) := by decide +kernel
theorem d_Mg_same_33 : decode m_Mg_same.2.1 33 = .ok (.iconst 1, 1) := by decide +kernel
theorem d_Mg_same_34 : decode m_Mg_same.2.1 34 = .ok (.goto 4, 3) := by decide +kernel
theorem d_Mg_same_11 : decode m_Mg_same.2.1 11 = .ok (.aload_n 0, 1) := by decide +kernel
theorem d_Mg_same_12 : decode m_Mg_same.2.1 12 = .ok (.iload_n 3, 1) := by decide +kernel
theorem d_Mg_same_13 : decode m_Mg_same.2.1 13 = .ok (.invokevirtual 133, 3) := by decide +kernel
theorem d_Mg_same_16 : decode m_Mg_same.2.1 16 = .ok (.ireturn, 1) := by decide +kernel
theorem d_Mg_danceProblem_0 : decode m_Mg_danceProblem.2.1 0 = .ok (.iload_n 1, 1) := by decide +kernel
theorem d_Mg_danceProblem_1 : decode m_Mg_danceProblem.2.1 1 = .ok (.invokestatic 106, 3) := by decide +kernel
theorem d_Mg_danceProblem_4 : decode m_Mg_danceProblem.2.1 4 = .ok (.ifCond .eq 13, 3) := by decide +kernel
theorem d_Mg_danceProblem_17 : decode m_Mg_danceProblem.2.1 17 = .ok (.iconst 1, 1) := by decide +kernel
theorem d_Mg_danceProblem_18 : decode m_Mg_danceProblem.2.1 18 = .ok (.ireturn, 1) := by decide +kernel
theorem d_Mg_danceProblem_7 : decode m_Mg_danceProblem.2.1 7 = .ok (.iload_n 2, 1) := by decide +kernel
theorem d_Mg_danceProblem_8 : decode m_Mg_danceProblem.2.1 8 = .ok (.iconst 0, 1) := by decide +kernel
theorem d_Mg_danceProblem_9 : decode m_Mg_danceProblem.2.1 9 = .ok (.bipush 40, 2) := by decide +kernel
theorem d_Mg_danceProblem_11 : decode m_Mg_danceProblem.2.1 11 = .ok (.invokestatic 110, 3) := by decide +kernel
theorem d_Mg_danceProblem_14 : decode m_Mg_danceProblem.2.1 14 = .ok (.ifCond .ne 5, 3) := by decide +kernel
theorem d_Mg_danceProblem_19 : decode m_Mg_danceProblem.2.1 19 = .ok (.aload_n 0, 1) := by decide +kernel
theorem d_Mg_danceProblem_20 : decode m_Mg_danceProblem.2.1 20 = .ok (.getfield 11, 3) := by decide +kernel
theorem d_Mg_danceProblem_23 : decode m_Mg_danceProblem.2.1 23 = .ok (.iload_n 1, 1) := by decide +kernel
theorem d_Mg_danceProblem_24 : decode m_Mg_danceProblem.2.1 24 = .ok (.aaload, 1) := by decide +kernel
theorem d_Mg_danceProblem_25 : decode m_Mg_danceProblem.2.1 25 = .ok (.getfield 141, 3) := by decide +kernel
theorem d_Mg_danceProblem_28 : decode m_Mg_danceProblem.2.1 28 = .ok (.ifCond .ne 5, 3) := by decide +kernel
theorem d_Mg_danceProblem_33 : decode m_Mg_danceProblem.2.1 33 = .ok (.iload_n 2, 1) := by decide +kernel
theorem d_Mg_danceProblem_34 : decode m_Mg_danceProblem.2.1 34 = .ok (.aload_n 0, 1) := by decide +kernel
theorem d_Mg_danceProblem_35 : decode m_Mg_danceProblem.2.1 35 = .ok (.getfield 11, 3) := by decide +kernel
theorem d_Mg_danceProblem_38 : decode m_Mg_danceProblem.2.1 38 = .ok (.iload_n 1, 1) := by decide +kernel
theorem d_Mg_danceProblem_39 : decode m_Mg_danceProblem.2.1 39 = .ok (.aaload, 1) := by decide +kernel
theorem d_Mg_danceProblem_40 : decode m_Mg_danceProblem.2.1 40 = .ok (.getfield 360, 3) := by decide +kernel
theorem d_Mg_danceProblem_43 : decode m_Mg_danceProblem.2.1 43 = .ok (.if_icmp .le 5, 3) := by decide +kernel
theorem d_Mg_danceProblem_48 : decode m_Mg_danceProblem.2.1 48 = .ok (.aload_n 0, 1) := by decide +kernel
theorem d_Mg_danceProblem_49 : decode m_Mg_danceProblem.2.1 49 = .ok (.getfield 11, 3) := by decide +kernel
theorem d_Mg_danceProblem_52 : decode m_Mg_danceProblem.2.1 52 = .ok (.iload_n 1, 1) := by decide +kernel
theorem d_Mg_danceProblem_53 : decode m_Mg_danceProblem.2.1 53 = .ok (.aaload, 1) := by decide +kernel
theorem d_Mg_danceProblem_54 : decode m_Mg_danceProblem.2.1 54 = .ok (.iconst 0, 1) := by decide +kernel
theorem d_Mg_danceProblem_55 : decode m_Mg_danceProblem.2.1 55 = .ok (.iload_n 2, 1) := by decide +kernel
theorem d_Mg_danceProblem_56 : decode m_Mg_danceProblem.2.1 56 = .ok (.iconst 1, 1) := by decide +kernel
theorem d_Mg_danceProblem_57 : decode m_Mg_danceProblem.2.1 57 = .ok (.ldc2_w 386, 3) := by decide +kernel
theorem cl_Mg_386 : Cond.constantLong "MaypoleGreen" 386 (2) ∈ aw_T := aw_in 1006 (by decide +kernel) rfl
theorem d_Mg_danceProblem_60 : decode m_Mg_danceProblem.2.1 60 = .ok (.aload_n 0, 1) := by decide +kernel
theorem d_Mg_danceProblem_61 : decode m_Mg_danceProblem.2.1 61 = .ok (.getfield 30, 3) := by decide +kernel
theorem d_Mg_danceProblem_64 : decode m_Mg_danceProblem.2.1 64 = .ok (.invokevirtual 191, 3) := by decide +kernel
theorem d_Mg_danceProblem_67 : decode m_Mg_danceProblem.2.1 67 = .ok (.i2l, 1) := by decide +kernel
theorem d_Mg_danceProblem_68 : decode m_Mg_danceProblem.2.1 68 = .ok (.lmul, 1) := by decide +kernel
theorem d_Mg_danceProblem_69 : decode m_Mg_danceProblem.2.1 69 = .ok (.invokevirtual 388, 3) := by decide +kernel
theorem lk_Mg_388 : Cond.methodLink "MaypoleGreen" 388 m_Tr_areBelow.1 ∈ aw_T := aw_in 1007 (by decide +kernel) rfl
theorem in_Tr_areBelow : Cond.instanceMethod m_Tr_areBelow.1 ∈ aw_T := aw_in 1008 (by decide +kernel) rfl
theorem se_Tr_areBelow : Cond.selects m_Tr_areBelow.1.cls m_Tr_areBelow.1 m_Tr_areBelow.1 ∈ aw_T := aw_in 1009 (by decide +kernel) rfl
theorem d_Mg_danceProblem_72 : decode m_Mg_danceProblem.2.1 72 = .ok (.ifCond .eq 7, 3) := by decide +kernel
theorem d_Mg_danceProblem_79 : decode m_Mg_danceProblem.2.1 79 = .ok (.iconst 5, 1) := by decide +kernel
theorem d_Mg_danceProblem_80 : decode m_Mg_danceProblem.2.1 80 = .ok (.ireturn, 1) := by decide +kernel
theorem d_Mg_danceProblem_75 : decode m_Mg_danceProblem.2.1 75 = .ok (.iconst 0, 1) := by decide +kernel
theorem d_Mg_danceProblem_76 : decode m_Mg_danceProblem.2.1 76 = .ok (.goto 4, 3) := by decide +kernel
theorem d_Mg_danceProblem_46 : decode m_Mg_danceProblem.2.1 46 = .ok (.iconst 3, 1) := by decide +kernel
theorem d_Mg_danceProblem_47 : decode m_Mg_danceProblem.2.1 47 = .ok (.ireturn, 1) := by decide +kernel
theorem d_Mg_danceProblem_31 : decode m_Mg_danceProblem.2.1 31 = .ok (.iconst 2, 1) := by decide +kernel
theorem d_Mg_danceProblem_32 : decode m_Mg_danceProblem.2.1 32 = .ok (.ireturn, 1) := by decide +kernel
theorem d_Mg_passesApart_0 : decode m_Mg_passesApart.2.1 0 = .ok (.aload_n 0, 1) := by decide +kernel
theorem d_Mg_passesApart_1 : decode m_Mg_passesApart.2.1 1 = .ok (.getfield 85, 3) := by decide +kernel
theorem f_Mg_85 : aw_F "MaypoleGreen" 85 0 17 true := ⟨cR0, cT0, 19, fun k => cY0.getD k .int, rfl, ci0, cy0, cn0, rfl, by decide, aw_in 440 (by decide +kernel) rfl, rfl, rfl, rfl⟩
theorem d_Mg_passesApart_4 : decode m_Mg_passesApart.2.1 4 = .ok (.iconst 0, 1) := by decide +kernel
theorem d_Mg_passesApart_5 : decode m_Mg_passesApart.2.1 5 = .ok (.putfield 198, 3) := by decide +kernel
theorem d_Mg_passesApart_8 : decode m_Mg_passesApart.2.1 8 = .ok (.aload_n 0, 1) := by decide +kernel
theorem d_Mg_passesApart_9 : decode m_Mg_passesApart.2.1 9 = .ok (.getfield 30, 3) := by decide +kernel
theorem d_Mg_passesApart_12 : decode m_Mg_passesApart.2.1 12 = .ok (.getfield 195, 3) := by decide +kernel
theorem d_Mg_passesApart_15 : decode m_Mg_passesApart.2.1 15 = .ok (.getfield 198, 3) := by decide +kernel
theorem d_Mg_passesApart_18 : decode m_Mg_passesApart.2.1 18 = .ok (.iconst 1, 1) := by decide +kernel
theorem d_Mg_passesApart_19 : decode m_Mg_passesApart.2.1 19 = .ok (.isub, 1) := by decide +kernel
theorem d_Mg_passesApart_20 : decode m_Mg_passesApart.2.1 20 = .ok (.istore 4, 2) := by decide +kernel
theorem d_Mg_passesApart_22 : decode m_Mg_passesApart.2.1 22 = .ok (.iload 4, 2) := by decide +kernel
theorem d_Mg_passesApart_24 : decode m_Mg_passesApart.2.1 24 = .ok (.ifCond .lt 47, 3) := by decide +kernel
theorem d_Mg_passesApart_71 : decode m_Mg_passesApart.2.1 71 = .ok (.iconst 0, 1) := by decide +kernel
theorem d_Mg_passesApart_72 : decode m_Mg_passesApart.2.1 72 = .ok (.istore 4, 2) := by decide +kernel
theorem d_Mg_passesApart_27 : decode m_Mg_passesApart.2.1 27 = .ok (.aload_n 0, 1) := by decide +kernel
theorem d_Mg_passesApart_28 : decode m_Mg_passesApart.2.1 28 = .ok (.getfield 85, 3) := by decide +kernel
theorem d_Mg_passesApart_31 : decode m_Mg_passesApart.2.1 31 = .ok (.aload_n 0, 1) := by decide +kernel
theorem d_Mg_passesApart_32 : decode m_Mg_passesApart.2.1 32 = .ok (.getfield 30, 3) := by decide +kernel
theorem d_Mg_passesApart_35 : decode m_Mg_passesApart.2.1 35 = .ok (.getfield 195, 3) := by decide +kernel
theorem d_Mg_passesApart_38 : decode m_Mg_passesApart.2.1 38 = .ok (.iload 4, 2) := by decide +kernel
theorem d_Mg_passesApart_40 : decode m_Mg_passesApart.2.1 40 = .ok (.invokevirtual 249, 3) := by decide +kernel
theorem d_Mg_passesApart_43 : decode m_Mg_passesApart.2.1 43 = .ok (.iconst 1, 1) := by decide +kernel
theorem d_Mg_passesApart_44 : decode m_Mg_passesApart.2.1 44 = .ok (.aload_n 0, 1) := by decide +kernel
theorem d_Mg_passesApart_45 : decode m_Mg_passesApart.2.1 45 = .ok (.getfield 30, 3) := by decide +kernel
theorem d_Mg_passesApart_48 : decode m_Mg_passesApart.2.1 48 = .ok (.getfield 195, 3) := by decide +kernel
theorem d_Mg_passesApart_51 : decode m_Mg_passesApart.2.1 51 = .ok (.iload 4, 2) := by decide +kernel
theorem d_Mg_passesApart_53 : decode m_Mg_passesApart.2.1 53 = .ok (.invokevirtual 252, 3) := by decide +kernel
theorem d_Mg_passesApart_56 : decode m_Mg_passesApart.2.1 56 = .ok (.isub, 1) := by decide +kernel
theorem d_Mg_passesApart_57 : decode m_Mg_passesApart.2.1 57 = .ok (.iconst 0, 1) := by decide +kernel
theorem d_Mg_passesApart_58 : decode m_Mg_passesApart.2.1 58 = .ok (.iconst 0, 1) := by decide +kernel
theorem d_Mg_passesApart_59 : decode m_Mg_passesApart.2.1 59 = .ok (.invokestatic 396, 3) := by decide +kernel
theorem lk_Mg_396 : Cond.methodLink "MaypoleGreen" 396 m_Pl_packed.1 ∈ aw_T := aw_in 1015 (by decide +kernel) rfl
theorem d_Mg_passesApart_62 : decode m_Mg_passesApart.2.1 62 = .ok (.invokevirtual 400, 3) := by decide +kernel
theorem lk_Mg_400 : Cond.methodLink "MaypoleGreen" 400 m_Pl_add.1 ∈ aw_T := aw_in 1016 (by decide +kernel) rfl
theorem in_Pl_add : Cond.instanceMethod m_Pl_add.1 ∈ aw_T := aw_in 1017 (by decide +kernel) rfl
theorem se_Pl_add : Cond.selects m_Pl_add.1.cls m_Pl_add.1 m_Pl_add.1 ∈ aw_T := aw_in 1018 (by decide +kernel) rfl
theorem d_Mg_passesApart_65 : decode m_Mg_passesApart.2.1 65 = .ok (.iinc 4 (-1), 3) := by decide +kernel
theorem d_Mg_passesApart_68 : decode m_Mg_passesApart.2.1 68 = .ok (.goto (-46), 3) := by decide +kernel
theorem d_Mg_passesApart_74 : decode m_Mg_passesApart.2.1 74 = .ok (.iload 4, 2) := by decide +kernel
theorem d_Mg_passesApart_76 : decode m_Mg_passesApart.2.1 76 = .ok (.iload_n 2, 1) := by decide +kernel
theorem d_Mg_passesApart_77 : decode m_Mg_passesApart.2.1 77 = .ok (.if_icmp .ge 102, 3) := by decide +kernel
theorem d_Mg_passesApart_179 : decode m_Mg_passesApart.2.1 179 = .ok (.aload_n 0, 1) := by decide +kernel
theorem d_Mg_passesApart_180 : decode m_Mg_passesApart.2.1 180 = .ok (.getfield 85, 3) := by decide +kernel
theorem d_Mg_passesApart_183 : decode m_Mg_passesApart.2.1 183 = .ok (.getfield 198, 3) := by decide +kernel
theorem d_Mg_passesApart_186 : decode m_Mg_passesApart.2.1 186 = .ok (.ireturn, 1) := by decide +kernel
theorem d_Mg_passesApart_80 : decode m_Mg_passesApart.2.1 80 = .ok (.aload_n 1, 1) := by decide +kernel
theorem d_Mg_passesApart_81 : decode m_Mg_passesApart.2.1 81 = .ok (.getfield 137, 3) := by decide +kernel
theorem d_Mg_passesApart_84 : decode m_Mg_passesApart.2.1 84 = .ok (.iload 4, 2) := by decide +kernel
theorem d_Mg_passesApart_86 : decode m_Mg_passesApart.2.1 86 = .ok (.laload, 1) := by decide +kernel
theorem d_Mg_passesApart_87 : decode m_Mg_passesApart.2.1 87 = .ok (.l2i, 1) := by decide +kernel
theorem d_Mg_passesApart_88 : decode m_Mg_passesApart.2.1 88 = .ok (.istore 5, 2) := by decide +kernel
theorem d_Mg_passesApart_90 : decode m_Mg_passesApart.2.1 90 = .ok (.iload 5, 2) := by decide +kernel
theorem d_Mg_passesApart_92 : decode m_Mg_passesApart.2.1 92 = .ok (.iconst 1, 1) := by decide +kernel
theorem d_Mg_passesApart_93 : decode m_Mg_passesApart.2.1 93 = .ok (.ishr, 1) := by decide +kernel
theorem d_Mg_passesApart_94 : decode m_Mg_passesApart.2.1 94 = .ok (.istore 6, 2) := by decide +kernel
theorem d_Mg_passesApart_96 : decode m_Mg_passesApart.2.1 96 = .ok (.iload 4, 2) := by decide +kernel
theorem d_Mg_passesApart_98 : decode m_Mg_passesApart.2.1 98 = .ok (.iload_n 3, 1) := by decide +kernel
theorem d_Mg_passesApart_99 : decode m_Mg_passesApart.2.1 99 = .ok (.if_icmp .ne 12, 3) := by decide +kernel
theorem d_Mg_passesApart_111 : decode m_Mg_passesApart.2.1 111 = .ok (.iload 5, 2) := by decide +kernel
theorem d_Mg_passesApart_113 : decode m_Mg_passesApart.2.1 113 = .ok (.iconst 1, 1) := by decide +kernel
theorem d_Mg_passesApart_114 : decode m_Mg_passesApart.2.1 114 = .ok (.iand, 1) := by decide +kernel
theorem d_Mg_passesApart_115 : decode m_Mg_passesApart.2.1 115 = .ok (.istore 7, 2) := by decide +kernel
theorem d_Mg_passesApart_117 : decode m_Mg_passesApart.2.1 117 = .ok (.aload_n 0, 1) := by decide +kernel
theorem d_Mg_passesApart_118 : decode m_Mg_passesApart.2.1 118 = .ok (.getfield 85, 3) := by decide +kernel
theorem d_Mg_passesApart_121 : decode m_Mg_passesApart.2.1 121 = .ok (.iload 6, 2) := by decide +kernel
theorem d_Mg_passesApart_123 : decode m_Mg_passesApart.2.1 123 = .ok (.iload 7, 2) := by decide +kernel
theorem d_Mg_passesApart_125 : decode m_Mg_passesApart.2.1 125 = .ok (.aload_n 0, 1) := by decide +kernel
theorem d_Mg_passesApart_126 : decode m_Mg_passesApart.2.1 126 = .ok (.getfield 30, 3) := by decide +kernel
theorem d_Mg_passesApart_129 : decode m_Mg_passesApart.2.1 129 = .ok (.iload 6, 2) := by decide +kernel
theorem d_Mg_passesApart_131 : decode m_Mg_passesApart.2.1 131 = .ok (.invokevirtual 403, 3) := by decide +kernel
theorem lk_Mg_403 : Cond.methodLink "MaypoleGreen" 403 m_Gr_touching.1 ∈ aw_T := aw_in 1021 (by decide +kernel) rfl
theorem d_Mg_passesApart_134 : decode m_Mg_passesApart.2.1 134 = .ok (.invokevirtual 406, 3) := by decide +kernel
theorem lk_Mg_406 : Cond.methodLink "MaypoleGreen" 406 m_Pl_undoneBy.1 ∈ aw_T := aw_in 1022 (by decide +kernel) rfl
theorem d_Mg_passesApart_137 : decode m_Mg_passesApart.2.1 137 = .ok (.istore 8, 2) := by decide +kernel
theorem d_Mg_passesApart_139 : decode m_Mg_passesApart.2.1 139 = .ok (.iload 8, 2) := by decide +kernel
theorem d_Mg_passesApart_141 : decode m_Mg_passesApart.2.1 141 = .ok (.iconst (-1), 1) := by decide +kernel
theorem d_Mg_passesApart_142 : decode m_Mg_passesApart.2.1 142 = .ok (.if_icmp .ne 22, 3) := by decide +kernel
theorem d_Mg_passesApart_164 : decode m_Mg_passesApart.2.1 164 = .ok (.aload_n 0, 1) := by decide +kernel
theorem d_Mg_passesApart_165 : decode m_Mg_passesApart.2.1 165 = .ok (.getfield 85, 3) := by decide +kernel
theorem d_Mg_passesApart_168 : decode m_Mg_passesApart.2.1 168 = .ok (.iload 8, 2) := by decide +kernel
theorem d_Mg_passesApart_170 : decode m_Mg_passesApart.2.1 170 = .ok (.invokevirtual 409, 3) := by decide +kernel
theorem lk_Mg_409 : Cond.methodLink "MaypoleGreen" 409 m_Pl_remove.1 ∈ aw_T := aw_in 1023 (by decide +kernel) rfl
theorem d_Mg_passesApart_173 : decode m_Mg_passesApart.2.1 173 = .ok (.iinc 4 1, 3) := by decide +kernel
theorem d_Mg_passesApart_176 : decode m_Mg_passesApart.2.1 176 = .ok (.goto (-102), 3) := by decide +kernel
theorem d_Mg_passesApart_145 : decode m_Mg_passesApart.2.1 145 = .ok (.aload_n 0, 1) := by decide +kernel
theorem d_Mg_passesApart_146 : decode m_Mg_passesApart.2.1 146 = .ok (.getfield 85, 3) := by decide +kernel
theorem d_Mg_passesApart_149 : decode m_Mg_passesApart.2.1 149 = .ok (.iload 6, 2) := by decide +kernel
theorem d_Mg_passesApart_151 : decode m_Mg_passesApart.2.1 151 = .ok (.iload 7, 2) := by decide +kernel
theorem d_Mg_passesApart_153 : decode m_Mg_passesApart.2.1 153 = .ok (.iconst 0, 1) := by decide +kernel
theorem d_Mg_passesApart_154 : decode m_Mg_passesApart.2.1 154 = .ok (.iconst 0, 1) := by decide +kernel
theorem d_Mg_passesApart_155 : decode m_Mg_passesApart.2.1 155 = .ok (.invokestatic 396, 3) := by decide +kernel
theorem d_Mg_passesApart_158 : decode m_Mg_passesApart.2.1 158 = .ok (.invokevirtual 400, 3) := by decide +kernel
theorem d_Mg_passesApart_161 : decode m_Mg_passesApart.2.1 161 = .ok (.goto 12, 3) := by decide +kernel
theorem d_Mg_passesApart_102 : decode m_Mg_passesApart.2.1 102 = .ok (.iconst 1, 1) := by decide +kernel
theorem d_Mg_passesApart_103 : decode m_Mg_passesApart.2.1 103 = .ok (.iload 5, 2) := by decide +kernel
theorem d_Mg_passesApart_105 : decode m_Mg_passesApart.2.1 105 = .ok (.iconst 1, 1) := by decide +kernel
theorem d_Mg_passesApart_106 : decode m_Mg_passesApart.2.1 106 = .ok (.iand, 1) := by decide +kernel
theorem d_Mg_passesApart_107 : decode m_Mg_passesApart.2.1 107 = .ok (.isub, 1) := by decide +kernel
theorem d_Mg_passesApart_108 : decode m_Mg_passesApart.2.1 108 = .ok (.goto 7, 3) := by decide +kernel
abbrev m_Mg_apart : aw_MI := (⟨"MaypoleGreen", "apart", "(II)I"⟩, prog_1_method_31_code, 4, some .int)
theorem k_Mg_apart : aw_K m_Mg_apart 2 := ⟨aw_in 1027 (by decide +kernel) rfl, aw_in 1 (by decide +kernel) rfl, ⟨by decide, by decide, by decide +kernel⟩, by decide, by decide +kernel⟩
theorem d_Mg_apart_0 : decode m_Mg_apart.2.1 0 = .ok (.aload_n 0, 1) := by decide +kernel
theorem d_Mg_apart_1 : decode m_Mg_apart.2.1 1 = .ok (.iload_n 1, 1) := by decide +kernel
theorem d_Mg_apart_2 : decode m_Mg_apart.2.1 2 = .ok (.iload_n 2, 1) := by decide +kernel
theorem d_Mg_apart_3 : decode m_Mg_apart.2.1 3 = .ok (.invokevirtual 311, 3) := by decide +kernel
theorem d_Mg_apart_6 : decode m_Mg_apart.2.1 6 = .ok (.istore_n 3, 1) := by decide +kernel
theorem d_Mg_apart_7 : decode m_Mg_apart.2.1 7 = .ok (.iload_n 3, 1) := by decide +kernel
theorem d_Mg_apart_8 : decode m_Mg_apart.2.1 8 = .ok (.ifCond .ne 22, 3) := by decide +kernel
theorem d_Mg_apart_30 : decode m_Mg_apart.2.1 30 = .ok (.aload_n 0, 1) := by decide +kernel
theorem d_Mg_apart_31 : decode m_Mg_apart.2.1 31 = .ok (.iload_n 3, 1) := by decide +kernel
theorem d_Mg_apart_32 : decode m_Mg_apart.2.1 32 = .ok (.invokevirtual 133, 3) := by decide +kernel
theorem d_Mg_apart_35 : decode m_Mg_apart.2.1 35 = .ok (.ireturn, 1) := by decide +kernel
theorem d_Mg_apart_11 : decode m_Mg_apart.2.1 11 = .ok (.aload_n 0, 1) := by decide +kernel
theorem d_Mg_apart_12 : decode m_Mg_apart.2.1 12 = .ok (.aload_n 0, 1) := by decide +kernel
theorem d_Mg_apart_13 : decode m_Mg_apart.2.1 13 = .ok (.aload_n 0, 1) := by decide +kernel
theorem d_Mg_apart_14 : decode m_Mg_apart.2.1 14 = .ok (.getfield 11, 3) := by decide +kernel
theorem d_Mg_apart_17 : decode m_Mg_apart.2.1 17 = .ok (.iload_n 1, 1) := by decide +kernel
theorem d_Mg_apart_18 : decode m_Mg_apart.2.1 18 = .ok (.aaload, 1) := by decide +kernel
theorem d_Mg_apart_19 : decode m_Mg_apart.2.1 19 = .ok (.iload_n 2, 1) := by decide +kernel
theorem d_Mg_apart_20 : decode m_Mg_apart.2.1 20 = .ok (.iconst (-1), 1) := by decide +kernel
theorem d_Mg_apart_21 : decode m_Mg_apart.2.1 21 = .ok (.invokevirtual 314, 3) := by decide +kernel
theorem d_Mg_apart_24 : decode m_Mg_apart.2.1 24 = .ok (.invokevirtual 174, 3) := by decide +kernel
theorem d_Mg_apart_27 : decode m_Mg_apart.2.1 27 = .ok (.goto 8, 3) := by decide +kernel
abbrev m_Mg_slips : aw_MI := (⟨"MaypoleGreen", "slips", "(II)I"⟩, prog_1_method_32_code, 6, some .int)
theorem k_Mg_slips : aw_K m_Mg_slips 2 := ⟨aw_in 1031 (by decide +kernel) rfl, aw_in 1 (by decide +kernel) rfl, ⟨by decide, by decide, by decide +kernel⟩, by decide, by decide +kernel⟩
theorem d_Mg_slips_0 : decode m_Mg_slips.2.1 0 = .ok (.aload_n 0, 1) := by decide +kernel
theorem d_Mg_slips_1 : decode m_Mg_slips.2.1 1 = .ok (.iload_n 1, 1) := by decide +kernel
theorem d_Mg_slips_2 : decode m_Mg_slips.2.1 2 = .ok (.iload_n 2, 1) := by decide +kernel
theorem d_Mg_slips_3 : decode m_Mg_slips.2.1 3 = .ok (.invokevirtual 311, 3) := by decide +kernel
theorem d_Mg_slips_6 : decode m_Mg_slips.2.1 6 = .ok (.istore_n 3, 1) := by decide +kernel
theorem d_Mg_slips_7 : decode m_Mg_slips.2.1 7 = .ok (.iload_n 3, 1) := by decide +kernel
theorem d_Mg_slips_8 : decode m_Mg_slips.2.1 8 = .ok (.ifCond .eq 9, 3) := by decide +kernel
theorem d_Mg_slips_17 : decode m_Mg_slips.2.1 17 = .ok (.iconst 0, 1) := by decide +kernel
theorem d_Mg_slips_18 : decode m_Mg_slips.2.1 18 = .ok (.istore 4, 2) := by decide +kernel
theorem d_Mg_slips_20 : decode m_Mg_slips.2.1 20 = .ok (.iconst 0, 1) := by decide +kernel
theorem d_Mg_slips_21 : decode m_Mg_slips.2.1 21 = .ok (.istore 5, 2) := by decide +kernel
theorem d_Mg_slips_11 : decode m_Mg_slips.2.1 11 = .ok (.aload_n 0, 1) := by decide +kernel
theorem d_Mg_slips_12 : decode m_Mg_slips.2.1 12 = .ok (.iload_n 3, 1) := by decide +kernel
theorem d_Mg_slips_13 : decode m_Mg_slips.2.1 13 = .ok (.invokevirtual 133, 3) := by decide +kernel
theorem d_Mg_slips_16 : decode m_Mg_slips.2.1 16 = .ok (.ireturn, 1) := by decide +kernel
theorem d_Mg_slips_23 : decode m_Mg_slips.2.1 23 = .ok (.iload 5, 2) := by decide +kernel
theorem d_Mg_slips_25 : decode m_Mg_slips.2.1 25 = .ok (.iload_n 2, 1) := by decide +kernel
theorem d_Mg_slips_26 : decode m_Mg_slips.2.1 26 = .ok (.if_icmp .ge 28, 3) := by decide +kernel
theorem d_Mg_slips_54 : decode m_Mg_slips.2.1 54 = .ok (.aload_n 0, 1) := by decide +kernel
theorem d_Mg_slips_55 : decode m_Mg_slips.2.1 55 = .ok (.iload 4, 2) := by decide +kernel
theorem d_Mg_slips_57 : decode m_Mg_slips.2.1 57 = .ok (.invokevirtual 174, 3) := by decide +kernel
theorem d_Mg_slips_60 : decode m_Mg_slips.2.1 60 = .ok (.ireturn, 1) := by decide +kernel
theorem d_Mg_slips_29 : decode m_Mg_slips.2.1 29 = .ok (.aload_n 0, 1) := by decide +kernel
theorem d_Mg_slips_30 : decode m_Mg_slips.2.1 30 = .ok (.aload_n 0, 1) := by decide +kernel
theorem d_Mg_slips_31 : decode m_Mg_slips.2.1 31 = .ok (.getfield 11, 3) := by decide +kernel
theorem d_Mg_slips_34 : decode m_Mg_slips.2.1 34 = .ok (.iload_n 1, 1) := by decide +kernel
theorem d_Mg_slips_35 : decode m_Mg_slips.2.1 35 = .ok (.aaload, 1) := by decide +kernel
theorem d_Mg_slips_36 : decode m_Mg_slips.2.1 36 = .ok (.iload_n 2, 1) := by decide +kernel
theorem d_Mg_slips_37 : decode m_Mg_slips.2.1 37 = .ok (.iload 5, 2) := by decide +kernel
theorem d_Mg_slips_39 : decode m_Mg_slips.2.1 39 = .ok (.invokevirtual 314, 3) := by decide +kernel
theorem d_Mg_slips_42 : decode m_Mg_slips.2.1 42 = .ok (.ifCond .ne 6, 3) := by decide +kernel
theorem d_Mg_slips_48 : decode m_Mg_slips.2.1 48 = .ok (.iinc 5 1, 3) := by decide +kernel
theorem d_Mg_slips_51 : decode m_Mg_slips.2.1 51 = .ok (.goto (-28), 3) := by decide +kernel
theorem d_Mg_slips_45 : decode m_Mg_slips.2.1 45 = .ok (.iinc 4 1, 3) := by decide +kernel
abbrev m_Mg_slipAt : aw_MI := (⟨"MaypoleGreen", "slipAt", "(III)I"⟩, prog_1_method_33_code, 7, some .int)
theorem k_Mg_slipAt : aw_K m_Mg_slipAt 3 := ⟨aw_in 1035 (by decide +kernel) rfl, aw_in 1 (by decide +kernel) rfl, ⟨by decide, by decide, by decide +kernel⟩, by decide, by decide +kernel⟩
theorem d_Mg_slipAt_0 : decode m_Mg_slipAt.2.1 0 = .ok (.iload_n 3, 1) := by decide +kernel
theorem d_Mg_slipAt_1 : decode m_Mg_slipAt.2.1 1 = .ok (.ifCond .ge 7, 3) := by decide +kernel
theorem d_Mg_slipAt_8 : decode m_Mg_slipAt.2.1 8 = .ok (.aload_n 0, 1) := by decide +kernel
theorem d_Mg_slipAt_9 : decode m_Mg_slipAt.2.1 9 = .ok (.iload_n 1, 1) := by decide +kernel
theorem d_Mg_slipAt_10 : decode m_Mg_slipAt.2.1 10 = .ok (.iload_n 2, 1) := by decide +kernel
theorem d_Mg_slipAt_11 : decode m_Mg_slipAt.2.1 11 = .ok (.invokevirtual 311, 3) := by decide +kernel
theorem d_Mg_slipAt_14 : decode m_Mg_slipAt.2.1 14 = .ok (.istore 4, 2) := by decide +kernel
theorem d_Mg_slipAt_16 : decode m_Mg_slipAt.2.1 16 = .ok (.iload 4, 2) := by decide +kernel
theorem d_Mg_slipAt_18 : decode m_Mg_slipAt.2.1 18 = .ok (.ifCond .eq 10, 3) := by decide +kernel
theorem d_Mg_slipAt_28 : decode m_Mg_slipAt.2.1 28 = .ok (.iconst 0, 1) := by decide +kernel
theorem d_Mg_slipAt_29 : decode m_Mg_slipAt.2.1 29 = .ok (.istore 5, 2) := by decide +kernel
theorem d_Mg_slipAt_31 : decode m_Mg_slipAt.2.1 31 = .ok (.iconst 0, 1) := by decide +kernel
theorem d_Mg_slipAt_32 : decode m_Mg_slipAt.2.1 32 = .ok (.istore 6, 2) := by decide +kernel
theorem d_Mg_slipAt_21 : decode m_Mg_slipAt.2.1 21 = .ok (.aload_n 0, 1) := by decide +kernel
theorem d_Mg_slipAt_22 : decode m_Mg_slipAt.2.1 22 = .ok (.iload 4, 2) := by decide +kernel
theorem d_Mg_slipAt_24 : decode m_Mg_slipAt.2.1 24 = .ok (.invokevirtual 133, 3) := by decide +kernel
theorem d_Mg_slipAt_27 : decode m_Mg_slipAt.2.1 27 = .ok (.ireturn, 1) := by decide +kernel
theorem d_Mg_slipAt_4 : decode m_Mg_slipAt.2.1 4 = .ok (.iconst 1, 1) := by decide +kernel
theorem d_Mg_slipAt_5 : decode m_Mg_slipAt.2.1 5 = .ok (.goto 9, 3) := by decide +kernel
theorem d_Mg_slipAt_34 : decode m_Mg_slipAt.2.1 34 = .ok (.iload 6, 2) := by decide +kernel
theorem d_Mg_slipAt_36 : decode m_Mg_slipAt.2.1 36 = .ok (.iload_n 2, 1) := by decide +kernel
theorem d_Mg_slipAt_37 : decode m_Mg_slipAt.2.1 37 = .ok (.if_icmp .ge 41, 3) := by decide +kernel
theorem d_Mg_slipAt_78 : decode m_Mg_slipAt.2.1 78 = .ok (.aload_n 0, 1) := by decide +kernel
theorem d_Mg_slipAt_79 : decode m_Mg_slipAt.2.1 79 = .ok (.bipush 6, 2) := by decide +kernel
theorem d_Mg_slipAt_81 : decode m_Mg_slipAt.2.1 81 = .ok (.invokevirtual 133, 3) := by decide +kernel
theorem d_Mg_slipAt_84 : decode m_Mg_slipAt.2.1 84 = .ok (.ireturn, 1) := by decide +kernel
theorem d_Mg_slipAt_40 : decode m_Mg_slipAt.2.1 40 = .ok (.aload_n 0, 1) := by decide +kernel
theorem d_Mg_slipAt_41 : decode m_Mg_slipAt.2.1 41 = .ok (.aload_n 0, 1) := by decide +kernel
theorem d_Mg_slipAt_42 : decode m_Mg_slipAt.2.1 42 = .ok (.getfield 11, 3) := by decide +kernel
theorem d_Mg_slipAt_45 : decode m_Mg_slipAt.2.1 45 = .ok (.iload_n 1, 1) := by decide +kernel
theorem d_Mg_slipAt_46 : decode m_Mg_slipAt.2.1 46 = .ok (.aaload, 1) := by decide +kernel
theorem d_Mg_slipAt_47 : decode m_Mg_slipAt.2.1 47 = .ok (.iload_n 2, 1) := by decide +kernel
theorem d_Mg_slipAt_48 : decode m_Mg_slipAt.2.1 48 = .ok (.iload 6, 2) := by decide +kernel
theorem d_Mg_slipAt_50 : decode m_Mg_slipAt.2.1 50 = .ok (.invokevirtual 314, 3) := by decide +kernel
theorem d_Mg_slipAt_53 : decode m_Mg_slipAt.2.1 53 = .ok (.ifCond .ne 19, 3) := by decide +kernel
theorem d_Mg_slipAt_72 : decode m_Mg_slipAt.2.1 72 = .ok (.iinc 6 1, 3) := by decide +kernel
theorem d_Mg_slipAt_75 : decode m_Mg_slipAt.2.1 75 = .ok (.goto (-41), 3) := by decide +kernel
theorem d_Mg_slipAt_56 : decode m_Mg_slipAt.2.1 56 = .ok (.iload 5, 2) := by decide +kernel
theorem d_Mg_slipAt_58 : decode m_Mg_slipAt.2.1 58 = .ok (.iload_n 3, 1) := by decide +kernel
theorem d_Mg_slipAt_59 : decode m_Mg_slipAt.2.1 59 = .ok (.if_icmp .ne 10, 3) := by decide +kernel
theorem d_Mg_slipAt_69 : decode m_Mg_slipAt.2.1 69 = .ok (.iinc 5 1, 3) := by decide +kernel
theorem d_Mg_slipAt_62 : decode m_Mg_slipAt.2.1 62 = .ok (.aload_n 0, 1) := by decide +kernel
theorem d_Mg_slipAt_63 : decode m_Mg_slipAt.2.1 63 = .ok (.iload 6, 2) := by decide +kernel
theorem d_Mg_slipAt_65 : decode m_Mg_slipAt.2.1 65 = .ok (.invokevirtual 174, 3) := by decide +kernel
theorem d_Mg_slipAt_68 : decode m_Mg_slipAt.2.1 68 = .ok (.ireturn, 1) := by decide +kernel
abbrev m_Mg_fits : aw_MI := (⟨"MaypoleGreen", "fits", "(III)I"⟩, prog_1_method_34_code, 5, some .int)
theorem k_Mg_fits : aw_K m_Mg_fits 3 := ⟨aw_in 1039 (by decide +kernel) rfl, aw_in 1 (by decide +kernel) rfl, ⟨by decide, by decide, by decide +kernel⟩, by decide, by decide +kernel⟩
theorem d_Mg_fits_0 : decode m_Mg_fits.2.1 0 = .ok (.aload_n 0, 1) := by decide +kernel
theorem d_Mg_fits_1 : decode m_Mg_fits.2.1 1 = .ok (.iload_n 1, 1) := by decide +kernel
theorem d_Mg_fits_2 : decode m_Mg_fits.2.1 2 = .ok (.iload_n 2, 1) := by decide +kernel
theorem d_Mg_fits_3 : decode m_Mg_fits.2.1 3 = .ok (.iload_n 3, 1) := by decide +kernel
theorem d_Mg_fits_4 : decode m_Mg_fits.2.1 4 = .ok (.invokevirtual 318, 3) := by decide +kernel
abbrev m_Mg_seenProblem : aw_MI := (⟨"MaypoleGreen", "seenProblem", "(III)I"⟩, prog_1_method_60_code, 7, some .int)
theorem lk_Mg_318 : Cond.methodLink "MaypoleGreen" 318 m_Mg_seenProblem.1 ∈ aw_T := aw_in 1040 (by decide +kernel) rfl
theorem k_Mg_seenProblem : aw_K m_Mg_seenProblem 3 := ⟨aw_in 1043 (by decide +kernel) rfl, aw_in 1 (by decide +kernel) rfl, ⟨by decide, by decide, by decide +kernel⟩, by decide, by decide +kernel⟩
theorem in_Mg_seenProblem : Cond.instanceMethod m_Mg_seenProblem.1 ∈ aw_T := aw_in 1042 (by decide +kernel) rfl
theorem se_Mg_seenProblem : Cond.selects m_Mg_seenProblem.1.cls m_Mg_seenProblem.1 m_Mg_seenProblem.1 ∈ aw_T := aw_inP 39 (by decide +kernel) rfl
theorem d_Mg_fits_7 : decode m_Mg_fits.2.1 7 = .ok (.istore 4, 2) := by decide +kernel
theorem d_Mg_fits_9 : decode m_Mg_fits.2.1 9 = .ok (.iload 4, 2) := by decide +kernel
theorem d_Mg_fits_11 : decode m_Mg_fits.2.1 11 = .ok (.ifCond .eq 10, 3) := by decide +kernel
theorem d_Mg_fits_21 : decode m_Mg_fits.2.1 21 = .ok (.aload_n 0, 1) := by decide +kernel
theorem d_Mg_fits_22 : decode m_Mg_fits.2.1 22 = .ok (.getfield 76, 3) := by decide +kernel
theorem f_Mg_76 : aw_F "MaypoleGreen" 76 0 16 true := ⟨cR0, cT0, 19, fun k => cY0.getD k .int, rfl, ci0, cy0, cn0, rfl, by decide, aw_in 439 (by decide +kernel) rfl, rfl, rfl, rfl⟩
theorem d_Mg_fits_25 : decode m_Mg_fits.2.1 25 = .ok (.aload_n 0, 1) := by decide +kernel
theorem d_Mg_fits_26 : decode m_Mg_fits.2.1 26 = .ok (.getfield 11, 3) := by decide +kernel
theorem d_Mg_fits_29 : decode m_Mg_fits.2.1 29 = .ok (.iload_n 1, 1) := by decide +kernel
theorem d_Mg_fits_30 : decode m_Mg_fits.2.1 30 = .ok (.aaload, 1) := by decide +kernel
theorem d_Mg_fits_31 : decode m_Mg_fits.2.1 31 = .ok (.iload_n 2, 1) := by decide +kernel
theorem d_Mg_fits_32 : decode m_Mg_fits.2.1 32 = .ok (.aload_n 0, 1) := by decide +kernel
theorem d_Mg_fits_33 : decode m_Mg_fits.2.1 33 = .ok (.invokevirtual 322, 3) := by decide +kernel
abbrev m_Mg_trial : aw_MI := (⟨"MaypoleGreen", "trial", "()LMaypoleGreen$Green;"⟩, prog_1_method_63_code, 1, some (.object "MaypoleGreen$Green"))
theorem lk_Mg_322 : Cond.methodLink "MaypoleGreen" 322 m_Mg_trial.1 ∈ aw_T := aw_in 1045 (by decide +kernel) rfl
theorem k_Mg_trial : aw_K m_Mg_trial 0 := ⟨aw_in 1048 (by decide +kernel) rfl, aw_in 1 (by decide +kernel) rfl, ⟨by decide, by decide, by decide +kernel⟩, by decide, by decide +kernel⟩
theorem in_Mg_trial : Cond.instanceMethod m_Mg_trial.1 ∈ aw_T := aw_in 1047 (by decide +kernel) rfl
theorem se_Mg_trial : Cond.selects m_Mg_trial.1.cls m_Mg_trial.1 m_Mg_trial.1 ∈ aw_T := aw_inP 40 (by decide +kernel) rfl
theorem d_Mg_fits_36 : decode m_Mg_fits.2.1 36 = .ok (.iload_n 3, 1) := by decide +kernel
theorem d_Mg_fits_37 : decode m_Mg_fits.2.1 37 = .ok (.invokevirtual 326, 3) := by decide +kernel
theorem lk_Mg_326 : Cond.methodLink "MaypoleGreen" 326 m_Ou_search.1 ∈ aw_T := aw_in 1058 (by decide +kernel) rfl
theorem in_Ou_search : Cond.instanceMethod m_Ou_search.1 ∈ aw_T := aw_in 1059 (by decide +kernel) rfl
theorem se_Ou_search : Cond.selects m_Ou_search.1.cls m_Ou_search.1 m_Ou_search.1 ∈ aw_T := aw_in 1060 (by decide +kernel) rfl
theorem d_Mg_fits_40 : decode m_Mg_fits.2.1 40 = .ok (.aload_n 0, 1) := by decide +kernel
theorem d_Mg_fits_41 : decode m_Mg_fits.2.1 41 = .ok (.aload_n 0, 1) := by decide +kernel
theorem d_Mg_fits_42 : decode m_Mg_fits.2.1 42 = .ok (.getfield 76, 3) := by decide +kernel
theorem d_Mg_fits_45 : decode m_Mg_fits.2.1 45 = .ok (.getfield 330, 3) := by decide +kernel
theorem f_Mg_330 : aw_F "MaypoleGreen" 330 9 0 false := ⟨cR9, cT9, 9, fun k => cY9.getD k .int, rfl, ci9, cy9, cn9, rfl, by decide, aw_in 371 (by decide +kernel) rfl, rfl, rfl, rfl⟩
theorem d_Mg_fits_48 : decode m_Mg_fits.2.1 48 = .ok (.invokevirtual 174, 3) := by decide +kernel
theorem d_Mg_fits_51 : decode m_Mg_fits.2.1 51 = .ok (.ireturn, 1) := by decide +kernel
theorem d_Mg_fits_14 : decode m_Mg_fits.2.1 14 = .ok (.aload_n 0, 1) := by decide +kernel
theorem d_Mg_fits_15 : decode m_Mg_fits.2.1 15 = .ok (.iload 4, 2) := by decide +kernel
theorem d_Mg_fits_17 : decode m_Mg_fits.2.1 17 = .ok (.invokevirtual 133, 3) := by decide +kernel
theorem d_Mg_fits_20 : decode m_Mg_fits.2.1 20 = .ok (.ireturn, 1) := by decide +kernel
theorem d_Mg_seenProblem_0 : decode m_Mg_seenProblem.2.1 0 = .ok (.iload_n 1, 1) := by decide +kernel
theorem d_Mg_seenProblem_1 : decode m_Mg_seenProblem.2.1 1 = .ok (.invokestatic 106, 3) := by decide +kernel
theorem d_Mg_seenProblem_4 : decode m_Mg_seenProblem.2.1 4 = .ok (.ifCond .eq 22, 3) := by decide +kernel
theorem d_Mg_seenProblem_26 : decode m_Mg_seenProblem.2.1 26 = .ok (.iconst 1, 1) := by decide +kernel
theorem d_Mg_seenProblem_27 : decode m_Mg_seenProblem.2.1 27 = .ok (.ireturn, 1) := by decide +kernel
theorem d_Mg_seenProblem_7 : decode m_Mg_seenProblem.2.1 7 = .ok (.iload_n 2, 1) := by decide +kernel
theorem d_Mg_seenProblem_8 : decode m_Mg_seenProblem.2.1 8 = .ok (.iconst 0, 1) := by decide +kernel
theorem d_Mg_seenProblem_9 : decode m_Mg_seenProblem.2.1 9 = .ok (.bipush 20, 2) := by decide +kernel
theorem d_Mg_seenProblem_11 : decode m_Mg_seenProblem.2.1 11 = .ok (.invokestatic 110, 3) := by decide +kernel
theorem d_Mg_seenProblem_14 : decode m_Mg_seenProblem.2.1 14 = .ok (.ifCond .eq 12, 3) := by decide +kernel
theorem d_Mg_seenProblem_17 : decode m_Mg_seenProblem.2.1 17 = .ok (.iload_n 3, 1) := by decide +kernel
theorem d_Mg_seenProblem_18 : decode m_Mg_seenProblem.2.1 18 = .ok (.iconst 0, 1) := by decide +kernel
theorem d_Mg_seenProblem_19 : decode m_Mg_seenProblem.2.1 19 = .ok (.iconst 4, 1) := by decide +kernel
theorem d_Mg_seenProblem_20 : decode m_Mg_seenProblem.2.1 20 = .ok (.invokestatic 110, 3) := by decide +kernel
theorem d_Mg_seenProblem_23 : decode m_Mg_seenProblem.2.1 23 = .ok (.ifCond .ne 5, 3) := by decide +kernel
theorem d_Mg_seenProblem_28 : decode m_Mg_seenProblem.2.1 28 = .ok (.aload_n 0, 1) := by decide +kernel
theorem d_Mg_seenProblem_29 : decode m_Mg_seenProblem.2.1 29 = .ok (.getfield 11, 3) := by decide +kernel
theorem d_Mg_seenProblem_32 : decode m_Mg_seenProblem.2.1 32 = .ok (.iload_n 1, 1) := by decide +kernel
theorem d_Mg_seenProblem_33 : decode m_Mg_seenProblem.2.1 33 = .ok (.aaload, 1) := by decide +kernel
theorem d_Mg_seenProblem_34 : decode m_Mg_seenProblem.2.1 34 = .ok (.astore 4, 2) := by decide +kernel
theorem d_Mg_seenProblem_36 : decode m_Mg_seenProblem.2.1 36 = .ok (.aload 4, 2) := by decide +kernel
theorem d_Mg_seenProblem_38 : decode m_Mg_seenProblem.2.1 38 = .ok (.getfield 141, 3) := by decide +kernel
theorem d_Mg_seenProblem_41 : decode m_Mg_seenProblem.2.1 41 = .ok (.ifCond .ne 5, 3) := by decide +kernel
theorem d_Mg_seenProblem_46 : decode m_Mg_seenProblem.2.1 46 = .ok (.iconst 2, 1) := by decide +kernel
theorem d_Mg_seenProblem_47 : decode m_Mg_seenProblem.2.1 47 = .ok (.iload_n 2, 1) := by decide +kernel
theorem d_Mg_seenProblem_48 : decode m_Mg_seenProblem.2.1 48 = .ok (.imul, 1) := by decide +kernel
theorem d_Mg_seenProblem_49 : decode m_Mg_seenProblem.2.1 49 = .ok (.aload 4, 2) := by decide +kernel
theorem d_Mg_seenProblem_51 : decode m_Mg_seenProblem.2.1 51 = .ok (.getfield 360, 3) := by decide +kernel
theorem d_Mg_seenProblem_54 : decode m_Mg_seenProblem.2.1 54 = .ok (.if_icmp .le 5, 3) := by decide +kernel
theorem d_Mg_seenProblem_59 : decode m_Mg_seenProblem.2.1 59 = .ok (.aload 4, 2) := by decide +kernel
theorem d_Mg_seenProblem_61 : decode m_Mg_seenProblem.2.1 61 = .ok (.iconst 0, 1) := by decide +kernel
theorem d_Mg_seenProblem_62 : decode m_Mg_seenProblem.2.1 62 = .ok (.iconst 2, 1) := by decide +kernel
theorem d_Mg_seenProblem_63 : decode m_Mg_seenProblem.2.1 63 = .ok (.iload_n 2, 1) := by decide +kernel
theorem d_Mg_seenProblem_64 : decode m_Mg_seenProblem.2.1 64 = .ok (.imul, 1) := by decide +kernel
theorem d_Mg_seenProblem_65 : decode m_Mg_seenProblem.2.1 65 = .ok (.iconst 2, 1) := by decide +kernel
theorem d_Mg_seenProblem_66 : decode m_Mg_seenProblem.2.1 66 = .ok (.aload_n 0, 1) := by decide +kernel
theorem d_Mg_seenProblem_67 : decode m_Mg_seenProblem.2.1 67 = .ok (.getfield 30, 3) := by decide +kernel
theorem d_Mg_seenProblem_70 : decode m_Mg_seenProblem.2.1 70 = .ok (.invokevirtual 191, 3) := by decide +kernel
theorem d_Mg_seenProblem_73 : decode m_Mg_seenProblem.2.1 73 = .ok (.i2l, 1) := by decide +kernel
theorem d_Mg_seenProblem_74 : decode m_Mg_seenProblem.2.1 74 = .ok (.invokevirtual 388, 3) := by decide +kernel
theorem d_Mg_seenProblem_77 : decode m_Mg_seenProblem.2.1 77 = .ok (.istore 5, 2) := by decide +kernel
theorem d_Mg_seenProblem_79 : decode m_Mg_seenProblem.2.1 79 = .ok (.aload 4, 2) := by decide +kernel
theorem d_Mg_seenProblem_81 : decode m_Mg_seenProblem.2.1 81 = .ok (.iconst 1, 1) := by decide +kernel
theorem d_Mg_seenProblem_82 : decode m_Mg_seenProblem.2.1 82 = .ok (.iconst 2, 1) := by decide +kernel
theorem d_Mg_seenProblem_83 : decode m_Mg_seenProblem.2.1 83 = .ok (.iload_n 2, 1) := by decide +kernel
theorem d_Mg_seenProblem_84 : decode m_Mg_seenProblem.2.1 84 = .ok (.imul, 1) := by decide +kernel
theorem d_Mg_seenProblem_85 : decode m_Mg_seenProblem.2.1 85 = .ok (.iconst 2, 1) := by decide +kernel
theorem d_Mg_seenProblem_86 : decode m_Mg_seenProblem.2.1 86 = .ok (.ldc2_w 392, 3) := by decide +kernel
theorem cl_Mg_392 : Cond.constantLong "MaypoleGreen" 392 (7) ∈ aw_T := aw_in 1044 (by decide +kernel) rfl
theorem d_Mg_seenProblem_89 : decode m_Mg_seenProblem.2.1 89 = .ok (.invokevirtual 388, 3) := by decide +kernel
theorem d_Mg_seenProblem_92 : decode m_Mg_seenProblem.2.1 92 = .ok (.istore 6, 2) := by decide +kernel
theorem d_Mg_seenProblem_94 : decode m_Mg_seenProblem.2.1 94 = .ok (.iload 5, 2) := by decide +kernel
theorem d_Mg_seenProblem_96 : decode m_Mg_seenProblem.2.1 96 = .ok (.ifCond .eq 12, 3) := by decide +kernel
theorem d_Mg_seenProblem_108 : decode m_Mg_seenProblem.2.1 108 = .ok (.iconst 5, 1) := by decide +kernel
theorem d_Mg_seenProblem_109 : decode m_Mg_seenProblem.2.1 109 = .ok (.ireturn, 1) := by decide +kernel
theorem d_Mg_seenProblem_99 : decode m_Mg_seenProblem.2.1 99 = .ok (.iload 6, 2) := by decide +kernel
theorem d_Mg_seenProblem_101 : decode m_Mg_seenProblem.2.1 101 = .ok (.ifCond .eq 7, 3) := by decide +kernel
theorem d_Mg_seenProblem_104 : decode m_Mg_seenProblem.2.1 104 = .ok (.iconst 0, 1) := by decide +kernel
theorem d_Mg_seenProblem_105 : decode m_Mg_seenProblem.2.1 105 = .ok (.goto 4, 3) := by decide +kernel
theorem d_Mg_seenProblem_57 : decode m_Mg_seenProblem.2.1 57 = .ok (.iconst 3, 1) := by decide +kernel
theorem d_Mg_seenProblem_58 : decode m_Mg_seenProblem.2.1 58 = .ok (.ireturn, 1) := by decide +kernel
theorem d_Mg_seenProblem_44 : decode m_Mg_seenProblem.2.1 44 = .ok (.iconst 2, 1) := by decide +kernel
theorem d_Mg_seenProblem_45 : decode m_Mg_seenProblem.2.1 45 = .ok (.ireturn, 1) := by decide +kernel
theorem d_Mg_trial_0 : decode m_Mg_trial.2.1 0 = .ok (.aload_n 0, 1) := by decide +kernel
theorem d_Mg_trial_1 : decode m_Mg_trial.2.1 1 = .ok (.getfield 34, 3) := by decide +kernel
theorem d_Mg_trial_4 : decode m_Mg_trial.2.1 4 = .ok (.aload_n 0, 1) := by decide +kernel
theorem d_Mg_trial_5 : decode m_Mg_trial.2.1 5 = .ok (.getfield 30, 3) := by decide +kernel
theorem d_Mg_trial_8 : decode m_Mg_trial.2.1 8 = .ok (.invokevirtual 380, 3) := by decide +kernel
theorem lk_Mg_380 : Cond.methodLink "MaypoleGreen" 380 m_Gr_copyFrom.1 ∈ aw_T := aw_in 1049 (by decide +kernel) rfl
theorem in_Gr_copyFrom : Cond.instanceMethod m_Gr_copyFrom.1 ∈ aw_T := aw_in 1050 (by decide +kernel) rfl
theorem se_Gr_copyFrom : Cond.selects m_Gr_copyFrom.1.cls m_Gr_copyFrom.1 m_Gr_copyFrom.1 ∈ aw_T := aw_in 1051 (by decide +kernel) rfl
theorem d_Mg_trial_11 : decode m_Mg_trial.2.1 11 = .ok (.aload_n 0, 1) := by decide +kernel
theorem d_Mg_trial_12 : decode m_Mg_trial.2.1 12 = .ok (.getfield 34, 3) := by decide +kernel
theorem d_Mg_trial_15 : decode m_Mg_trial.2.1 15 = .ok (.areturn, 1) := by decide +kernel
abbrev m_Mg_fitsAt : aw_MI := (⟨"MaypoleGreen", "fitsAt", "(IIII)I"⟩, prog_1_method_35_code, 6, some .int)
theorem k_Mg_fitsAt : aw_K m_Mg_fitsAt 4 := ⟨aw_in 1109 (by decide +kernel) rfl, aw_in 1 (by decide +kernel) rfl, ⟨by decide, by decide, by decide +kernel⟩, by decide, by decide +kernel⟩
theorem d_Mg_fitsAt_0 : decode m_Mg_fitsAt.2.1 0 = .ok (.iload 4, 2) := by decide +kernel
theorem d_Mg_fitsAt_2 : decode m_Mg_fitsAt.2.1 2 = .ok (.ifCond .ge 7, 3) := by decide +kernel
theorem d_Mg_fitsAt_9 : decode m_Mg_fitsAt.2.1 9 = .ok (.aload_n 0, 1) := by decide +kernel
theorem d_Mg_fitsAt_10 : decode m_Mg_fitsAt.2.1 10 = .ok (.iload_n 1, 1) := by decide +kernel
theorem d_Mg_fitsAt_11 : decode m_Mg_fitsAt.2.1 11 = .ok (.iload_n 2, 1) := by decide +kernel
theorem d_Mg_fitsAt_12 : decode m_Mg_fitsAt.2.1 12 = .ok (.iload_n 3, 1) := by decide +kernel
theorem d_Mg_fitsAt_13 : decode m_Mg_fitsAt.2.1 13 = .ok (.invokevirtual 318, 3) := by decide +kernel
theorem d_Mg_fitsAt_16 : decode m_Mg_fitsAt.2.1 16 = .ok (.istore 5, 2) := by decide +kernel
theorem d_Mg_fitsAt_18 : decode m_Mg_fitsAt.2.1 18 = .ok (.iload 5, 2) := by decide +kernel
theorem d_Mg_fitsAt_20 : decode m_Mg_fitsAt.2.1 20 = .ok (.ifCond .eq 10, 3) := by decide +kernel
theorem d_Mg_fitsAt_30 : decode m_Mg_fitsAt.2.1 30 = .ok (.iload 4, 2) := by decide +kernel
theorem d_Mg_fitsAt_32 : decode m_Mg_fitsAt.2.1 32 = .ok (.iload_n 3, 1) := by decide +kernel
theorem d_Mg_fitsAt_33 : decode m_Mg_fitsAt.2.1 33 = .ok (.if_icmp .lt 10, 3) := by decide +kernel
theorem d_Mg_fitsAt_43 : decode m_Mg_fitsAt.2.1 43 = .ok (.aload_n 0, 1) := by decide +kernel
theorem d_Mg_fitsAt_44 : decode m_Mg_fitsAt.2.1 44 = .ok (.getfield 76, 3) := by decide +kernel
theorem d_Mg_fitsAt_47 : decode m_Mg_fitsAt.2.1 47 = .ok (.aload_n 0, 1) := by decide +kernel
theorem d_Mg_fitsAt_48 : decode m_Mg_fitsAt.2.1 48 = .ok (.getfield 11, 3) := by decide +kernel
theorem d_Mg_fitsAt_51 : decode m_Mg_fitsAt.2.1 51 = .ok (.iload_n 1, 1) := by decide +kernel
theorem d_Mg_fitsAt_52 : decode m_Mg_fitsAt.2.1 52 = .ok (.aaload, 1) := by decide +kernel
theorem d_Mg_fitsAt_53 : decode m_Mg_fitsAt.2.1 53 = .ok (.iload_n 2, 1) := by decide +kernel
theorem d_Mg_fitsAt_54 : decode m_Mg_fitsAt.2.1 54 = .ok (.aload_n 0, 1) := by decide +kernel
theorem d_Mg_fitsAt_55 : decode m_Mg_fitsAt.2.1 55 = .ok (.invokevirtual 322, 3) := by decide +kernel
theorem d_Mg_fitsAt_58 : decode m_Mg_fitsAt.2.1 58 = .ok (.iload_n 3, 1) := by decide +kernel
theorem d_Mg_fitsAt_59 : decode m_Mg_fitsAt.2.1 59 = .ok (.invokevirtual 326, 3) := by decide +kernel
theorem d_Mg_fitsAt_62 : decode m_Mg_fitsAt.2.1 62 = .ok (.aload_n 0, 1) := by decide +kernel
theorem d_Mg_fitsAt_63 : decode m_Mg_fitsAt.2.1 63 = .ok (.getfield 76, 3) := by decide +kernel
theorem d_Mg_fitsAt_66 : decode m_Mg_fitsAt.2.1 66 = .ok (.getfield 330, 3) := by decide +kernel
theorem d_Mg_fitsAt_69 : decode m_Mg_fitsAt.2.1 69 = .ok (.ifCond .ne 12, 3) := by decide +kernel
theorem d_Mg_fitsAt_81 : decode m_Mg_fitsAt.2.1 81 = .ok (.aload_n 0, 1) := by decide +kernel
theorem d_Mg_fitsAt_82 : decode m_Mg_fitsAt.2.1 82 = .ok (.aload_n 0, 1) := by decide +kernel
theorem d_Mg_fitsAt_83 : decode m_Mg_fitsAt.2.1 83 = .ok (.getfield 76, 3) := by decide +kernel
theorem d_Mg_fitsAt_86 : decode m_Mg_fitsAt.2.1 86 = .ok (.getfield 333, 3) := by decide +kernel
theorem f_Mg_333 : aw_F "MaypoleGreen" 333 9 1 true := ⟨cR9, cT9, 9, fun k => cY9.getD k .int, rfl, ci9, cy9, cn9, rfl, by decide, aw_in 373 (by decide +kernel) rfl, rfl, rfl, rfl⟩
theorem d_Mg_fitsAt_89 : decode m_Mg_fitsAt.2.1 89 = .ok (.iload 4, 2) := by decide +kernel
theorem d_Mg_fitsAt_91 : decode m_Mg_fitsAt.2.1 91 = .ok (.iaload, 1) := by decide +kernel
theorem d_Mg_fitsAt_92 : decode m_Mg_fitsAt.2.1 92 = .ok (.invokevirtual 174, 3) := by decide +kernel
theorem d_Mg_fitsAt_95 : decode m_Mg_fitsAt.2.1 95 = .ok (.ireturn, 1) := by decide +kernel
theorem d_Mg_fitsAt_72 : decode m_Mg_fitsAt.2.1 72 = .ok (.aload_n 0, 1) := by decide +kernel
theorem d_Mg_fitsAt_73 : decode m_Mg_fitsAt.2.1 73 = .ok (.bipush 6, 2) := by decide +kernel
theorem d_Mg_fitsAt_75 : decode m_Mg_fitsAt.2.1 75 = .ok (.invokevirtual 133, 3) := by decide +kernel
theorem d_Mg_fitsAt_78 : decode m_Mg_fitsAt.2.1 78 = .ok (.goto 17, 3) := by decide +kernel
theorem d_Mg_fitsAt_36 : decode m_Mg_fitsAt.2.1 36 = .ok (.aload_n 0, 1) := by decide +kernel
theorem d_Mg_fitsAt_37 : decode m_Mg_fitsAt.2.1 37 = .ok (.bipush 6, 2) := by decide +kernel
theorem d_Mg_fitsAt_39 : decode m_Mg_fitsAt.2.1 39 = .ok (.invokevirtual 133, 3) := by decide +kernel
theorem d_Mg_fitsAt_42 : decode m_Mg_fitsAt.2.1 42 = .ok (.ireturn, 1) := by decide +kernel
theorem d_Mg_fitsAt_23 : decode m_Mg_fitsAt.2.1 23 = .ok (.aload_n 0, 1) := by decide +kernel
theorem d_Mg_fitsAt_24 : decode m_Mg_fitsAt.2.1 24 = .ok (.iload 5, 2) := by decide +kernel
theorem d_Mg_fitsAt_26 : decode m_Mg_fitsAt.2.1 26 = .ok (.invokevirtual 133, 3) := by decide +kernel
theorem d_Mg_fitsAt_29 : decode m_Mg_fitsAt.2.1 29 = .ok (.ireturn, 1) := by decide +kernel
theorem d_Mg_fitsAt_5 : decode m_Mg_fitsAt.2.1 5 = .ok (.iconst 1, 1) := by decide +kernel
theorem d_Mg_fitsAt_6 : decode m_Mg_fitsAt.2.1 6 = .ok (.goto 10, 3) := by decide +kernel
abbrev m_Mg_ask : aw_MI := (⟨"MaypoleGreen", "ask", "(III)I"⟩, prog_1_method_36_code, 6, some .int)
theorem k_Mg_ask : aw_K m_Mg_ask 3 := ⟨aw_in 1113 (by decide +kernel) rfl, aw_in 1 (by decide +kernel) rfl, ⟨by decide, by decide, by decide +kernel⟩, by decide, by decide +kernel⟩
theorem d_Mg_ask_0 : decode m_Mg_ask.2.1 0 = .ok (.aload_n 0, 1) := by decide +kernel
theorem d_Mg_ask_1 : decode m_Mg_ask.2.1 1 = .ok (.iload_n 1, 1) := by decide +kernel
theorem d_Mg_ask_2 : decode m_Mg_ask.2.1 2 = .ok (.iload_n 2, 1) := by decide +kernel
theorem d_Mg_ask_3 : decode m_Mg_ask.2.1 3 = .ok (.iload_n 3, 1) := by decide +kernel
theorem d_Mg_ask_4 : decode m_Mg_ask.2.1 4 = .ok (.invokevirtual 318, 3) := by decide +kernel
theorem d_Mg_ask_7 : decode m_Mg_ask.2.1 7 = .ok (.istore 4, 2) := by decide +kernel
theorem d_Mg_ask_9 : decode m_Mg_ask.2.1 9 = .ok (.iload 4, 2) := by decide +kernel
theorem d_Mg_ask_11 : decode m_Mg_ask.2.1 11 = .ok (.ifCond .eq 10, 3) := by decide +kernel
theorem d_Mg_ask_21 : decode m_Mg_ask.2.1 21 = .ok (.aload_n 0, 1) := by decide +kernel
theorem d_Mg_ask_22 : decode m_Mg_ask.2.1 22 = .ok (.getfield 76, 3) := by decide +kernel
theorem d_Mg_ask_25 : decode m_Mg_ask.2.1 25 = .ok (.aload_n 0, 1) := by decide +kernel
theorem d_Mg_ask_26 : decode m_Mg_ask.2.1 26 = .ok (.getfield 11, 3) := by decide +kernel
theorem d_Mg_ask_29 : decode m_Mg_ask.2.1 29 = .ok (.iload_n 1, 1) := by decide +kernel
theorem d_Mg_ask_30 : decode m_Mg_ask.2.1 30 = .ok (.aaload, 1) := by decide +kernel
theorem d_Mg_ask_31 : decode m_Mg_ask.2.1 31 = .ok (.iload_n 2, 1) := by decide +kernel
theorem d_Mg_ask_32 : decode m_Mg_ask.2.1 32 = .ok (.aload_n 0, 1) := by decide +kernel
theorem d_Mg_ask_33 : decode m_Mg_ask.2.1 33 = .ok (.invokevirtual 322, 3) := by decide +kernel
theorem d_Mg_ask_36 : decode m_Mg_ask.2.1 36 = .ok (.iload_n 3, 1) := by decide +kernel
theorem d_Mg_ask_37 : decode m_Mg_ask.2.1 37 = .ok (.invokevirtual 326, 3) := by decide +kernel
theorem d_Mg_ask_40 : decode m_Mg_ask.2.1 40 = .ok (.aload_n 0, 1) := by decide +kernel
theorem d_Mg_ask_41 : decode m_Mg_ask.2.1 41 = .ok (.getfield 76, 3) := by decide +kernel
theorem d_Mg_ask_44 : decode m_Mg_ask.2.1 44 = .ok (.invokevirtual 336, 3) := by decide +kernel
theorem lk_Mg_336 : Cond.methodLink "MaypoleGreen" 336 m_Ou_partingGap.1 ∈ aw_T := aw_in 1114 (by decide +kernel) rfl
theorem in_Ou_partingGap : Cond.instanceMethod m_Ou_partingGap.1 ∈ aw_T := aw_in 1115 (by decide +kernel) rfl
theorem se_Ou_partingGap : Cond.selects m_Ou_partingGap.1.cls m_Ou_partingGap.1 m_Ou_partingGap.1 ∈ aw_T := aw_in 1116 (by decide +kernel) rfl
theorem d_Mg_ask_47 : decode m_Mg_ask.2.1 47 = .ok (.istore 5, 2) := by decide +kernel
theorem d_Mg_ask_49 : decode m_Mg_ask.2.1 49 = .ok (.iload 5, 2) := by decide +kernel
theorem d_Mg_ask_51 : decode m_Mg_ask.2.1 51 = .ok (.iconst (-1), 1) := by decide +kernel
theorem d_Mg_ask_52 : decode m_Mg_ask.2.1 52 = .ok (.if_icmp .ne 12, 3) := by decide +kernel
theorem d_Mg_ask_64 : decode m_Mg_ask.2.1 64 = .ok (.aload_n 0, 1) := by decide +kernel
theorem d_Mg_ask_65 : decode m_Mg_ask.2.1 65 = .ok (.iload 5, 2) := by decide +kernel
theorem d_Mg_ask_67 : decode m_Mg_ask.2.1 67 = .ok (.invokevirtual 174, 3) := by decide +kernel
theorem d_Mg_ask_70 : decode m_Mg_ask.2.1 70 = .ok (.ireturn, 1) := by decide +kernel
theorem d_Mg_ask_55 : decode m_Mg_ask.2.1 55 = .ok (.aload_n 0, 1) := by decide +kernel
theorem d_Mg_ask_56 : decode m_Mg_ask.2.1 56 = .ok (.bipush 6, 2) := by decide +kernel
theorem d_Mg_ask_58 : decode m_Mg_ask.2.1 58 = .ok (.invokevirtual 133, 3) := by decide +kernel
theorem d_Mg_ask_61 : decode m_Mg_ask.2.1 61 = .ok (.goto 9, 3) := by decide +kernel
theorem d_Mg_ask_14 : decode m_Mg_ask.2.1 14 = .ok (.aload_n 0, 1) := by decide +kernel
theorem d_Mg_ask_15 : decode m_Mg_ask.2.1 15 = .ok (.iload 4, 2) := by decide +kernel
theorem d_Mg_ask_17 : decode m_Mg_ask.2.1 17 = .ok (.invokevirtual 133, 3) := by decide +kernel
theorem d_Mg_ask_20 : decode m_Mg_ask.2.1 20 = .ok (.ireturn, 1) := by decide +kernel
abbrev m_Mg_game : aw_MI := (⟨"MaypoleGreen", "game", "(I)I"⟩, prog_1_method_37_code, 2, some .int)
theorem k_Mg_game : aw_K m_Mg_game 1 := ⟨aw_in 1122 (by decide +kernel) rfl, aw_in 1 (by decide +kernel) rfl, ⟨by decide, by decide, by decide +kernel⟩, by decide, by decide +kernel⟩
theorem d_Mg_game_0 : decode m_Mg_game.2.1 0 = .ok (.iload_n 1, 1) := by decide +kernel
theorem d_Mg_game_1 : decode m_Mg_game.2.1 1 = .ok (.iconst 0, 1) := by decide +kernel
theorem d_Mg_game_2 : decode m_Mg_game.2.1 2 = .ok (.iconst 3, 1) := by decide +kernel
theorem d_Mg_game_3 : decode m_Mg_game.2.1 3 = .ok (.invokestatic 110, 3) := by decide +kernel
theorem d_Mg_game_6 : decode m_Mg_game.2.1 6 = .ok (.ifCond .ne 9, 3) := by decide +kernel
theorem d_Mg_game_15 : decode m_Mg_game.2.1 15 = .ok (.aload_n 0, 1) := by decide +kernel
theorem d_Mg_game_16 : decode m_Mg_game.2.1 16 = .ok (.aload_n 0, 1) := by decide +kernel
theorem d_Mg_game_17 : decode m_Mg_game.2.1 17 = .ok (.invokevirtual 322, 3) := by decide +kernel
theorem d_Mg_game_20 : decode m_Mg_game.2.1 20 = .ok (.iload_n 1, 1) := by decide +kernel
theorem d_Mg_game_21 : decode m_Mg_game.2.1 21 = .ok (.iconst 1, 1) := by decide +kernel
theorem d_Mg_game_22 : decode m_Mg_game.2.1 22 = .ok (.invokestatic 339, 3) := by decide +kernel
theorem ln_Mg_339 : Cond.methodLinkNest "MaypoleGreen" 339 m_Py_worth.1 "MaypoleGreen" ∈ tables_1 := List.mem_of_getElem? (i := 1123) (by decide +kernel)
theorem d_Mg_game_25 : decode m_Mg_game.2.1 25 = .ok (.invokevirtual 174, 3) := by decide +kernel
theorem d_Mg_game_28 : decode m_Mg_game.2.1 28 = .ok (.ireturn, 1) := by decide +kernel
theorem d_Mg_game_9 : decode m_Mg_game.2.1 9 = .ok (.aload_n 0, 1) := by decide +kernel
theorem d_Mg_game_10 : decode m_Mg_game.2.1 10 = .ok (.iconst 1, 1) := by decide +kernel
theorem d_Mg_game_11 : decode m_Mg_game.2.1 11 = .ok (.invokevirtual 133, 3) := by decide +kernel
theorem d_Mg_game_14 : decode m_Mg_game.2.1 14 = .ok (.ireturn, 1) := by decide +kernel
abbrev m_Mg_moveOf : aw_MI := (⟨"MaypoleGreen", "moveOf", "(I)I"⟩, prog_1_method_38_code, 3, some .int)
theorem k_Mg_moveOf : aw_K m_Mg_moveOf 1 := ⟨aw_in 1136 (by decide +kernel) rfl, aw_in 1 (by decide +kernel) rfl, ⟨by decide, by decide, by decide +kernel⟩, by decide, by decide +kernel⟩
theorem d_Mg_moveOf_0 : decode m_Mg_moveOf.2.1 0 = .ok (.iload_n 1, 1) := by decide +kernel
theorem d_Mg_moveOf_1 : decode m_Mg_moveOf.2.1 1 = .ok (.iconst 1, 1) := by decide +kernel
theorem d_Mg_moveOf_2 : decode m_Mg_moveOf.2.1 2 = .ok (.iconst 3, 1) := by decide +kernel
theorem d_Mg_moveOf_3 : decode m_Mg_moveOf.2.1 3 = .ok (.invokestatic 110, 3) := by decide +kernel
theorem d_Mg_moveOf_6 : decode m_Mg_moveOf.2.1 6 = .ok (.ifCond .ne 9, 3) := by decide +kernel
theorem d_Mg_moveOf_15 : decode m_Mg_moveOf.2.1 15 = .ok (.aload_n 0, 1) := by decide +kernel
theorem d_Mg_moveOf_16 : decode m_Mg_moveOf.2.1 16 = .ok (.invokevirtual 322, 3) := by decide +kernel
theorem d_Mg_moveOf_19 : decode m_Mg_moveOf.2.1 19 = .ok (.iload_n 1, 1) := by decide +kernel
theorem d_Mg_moveOf_20 : decode m_Mg_moveOf.2.1 20 = .ok (.invokestatic 345, 3) := by decide +kernel
theorem lk_Mg_345 : Cond.methodLink "MaypoleGreen" 345 m_Py_opening.1 ∈ aw_T := aw_in 1137 (by decide +kernel) rfl
theorem st_Py_opening : Cond.static m_Py_opening.1 ∈ aw_T := aw_in 1138 (by decide +kernel) rfl
theorem d_Mg_moveOf_23 : decode m_Mg_moveOf.2.1 23 = .ok (.istore_n 2, 1) := by decide +kernel
theorem d_Mg_moveOf_24 : decode m_Mg_moveOf.2.1 24 = .ok (.iload_n 2, 1) := by decide +kernel
theorem d_Mg_moveOf_25 : decode m_Mg_moveOf.2.1 25 = .ok (.iconst (-1), 1) := by decide +kernel
theorem d_Mg_moveOf_26 : decode m_Mg_moveOf.2.1 26 = .ok (.if_icmp .ne 12, 3) := by decide +kernel
theorem d_Mg_moveOf_38 : decode m_Mg_moveOf.2.1 38 = .ok (.aload_n 0, 1) := by decide +kernel
theorem d_Mg_moveOf_39 : decode m_Mg_moveOf.2.1 39 = .ok (.iload_n 2, 1) := by decide +kernel
theorem d_Mg_moveOf_40 : decode m_Mg_moveOf.2.1 40 = .ok (.invokevirtual 174, 3) := by decide +kernel
theorem d_Mg_moveOf_43 : decode m_Mg_moveOf.2.1 43 = .ok (.ireturn, 1) := by decide +kernel
theorem d_Mg_moveOf_29 : decode m_Mg_moveOf.2.1 29 = .ok (.aload_n 0, 1) := by decide +kernel
theorem d_Mg_moveOf_30 : decode m_Mg_moveOf.2.1 30 = .ok (.bipush 6, 2) := by decide +kernel
theorem d_Mg_moveOf_32 : decode m_Mg_moveOf.2.1 32 = .ok (.invokevirtual 133, 3) := by decide +kernel
theorem d_Mg_moveOf_35 : decode m_Mg_moveOf.2.1 35 = .ok (.goto 8, 3) := by decide +kernel
theorem d_Mg_moveOf_9 : decode m_Mg_moveOf.2.1 9 = .ok (.aload_n 0, 1) := by decide +kernel
theorem d_Mg_moveOf_10 : decode m_Mg_moveOf.2.1 10 = .ok (.iconst 1, 1) := by decide +kernel
theorem d_Mg_moveOf_11 : decode m_Mg_moveOf.2.1 11 = .ok (.invokevirtual 133, 3) := by decide +kernel
theorem d_Mg_moveOf_14 : decode m_Mg_moveOf.2.1 14 = .ok (.ireturn, 1) := by decide +kernel
abbrev m_Mg_slipped : aw_MI := (⟨"MaypoleGreen", "slipped", "(II)Z"⟩, prog_1_method_39_code, 3, some .boolean)
theorem k_Mg_slipped : aw_K m_Mg_slipped 2 := ⟨aw_in 1143 (by decide +kernel) rfl, aw_in 1 (by decide +kernel) rfl, ⟨by decide, by decide, by decide +kernel⟩, by decide, by decide +kernel⟩
theorem d_Mg_slipped_0 : decode m_Mg_slipped.2.1 0 = .ok (.iload_n 1, 1) := by decide +kernel
theorem d_Mg_slipped_1 : decode m_Mg_slipped.2.1 1 = .ok (.iconst 0, 1) := by decide +kernel
theorem d_Mg_slipped_2 : decode m_Mg_slipped.2.1 2 = .ok (.bipush 12, 2) := by decide +kernel
theorem d_Mg_slipped_4 : decode m_Mg_slipped.2.1 4 = .ok (.invokestatic 110, 3) := by decide +kernel
theorem d_Mg_slipped_7 : decode m_Mg_slipped.2.1 7 = .ok (.ifCond .eq 13, 3) := by decide +kernel
theorem d_Mg_slipped_20 : decode m_Mg_slipped.2.1 20 = .ok (.aload_n 0, 1) := by decide +kernel
theorem d_Mg_slipped_21 : decode m_Mg_slipped.2.1 21 = .ok (.iconst 1, 1) := by decide +kernel
theorem d_Mg_slipped_22 : decode m_Mg_slipped.2.1 22 = .ok (.invokevirtual 114, 3) := by decide +kernel
theorem d_Mg_slipped_25 : decode m_Mg_slipped.2.1 25 = .ok (.ireturn, 1) := by decide +kernel
theorem d_Mg_slipped_10 : decode m_Mg_slipped.2.1 10 = .ok (.iload_n 2, 1) := by decide +kernel
theorem d_Mg_slipped_11 : decode m_Mg_slipped.2.1 11 = .ok (.iconst 0, 1) := by decide +kernel
theorem d_Mg_slipped_12 : decode m_Mg_slipped.2.1 12 = .ok (.bipush 12, 2) := by decide +kernel
theorem d_Mg_slipped_14 : decode m_Mg_slipped.2.1 14 = .ok (.invokestatic 110, 3) := by decide +kernel
theorem d_Mg_slipped_17 : decode m_Mg_slipped.2.1 17 = .ok (.ifCond .ne 9, 3) := by decide +kernel
theorem d_Mg_slipped_26 : decode m_Mg_slipped.2.1 26 = .ok (.aload_n 0, 1) := by decide +kernel
theorem d_Mg_slipped_27 : decode m_Mg_slipped.2.1 27 = .ok (.getfield 92, 3) := by decide +kernel
theorem d_Mg_slipped_30 : decode m_Mg_slipped.2.1 30 = .ok (.aload_n 0, 1) := by decide +kernel
theorem d_Mg_slipped_31 : decode m_Mg_slipped.2.1 31 = .ok (.getfield 30, 3) := by decide +kernel
theorem d_Mg_slipped_34 : decode m_Mg_slipped.2.1 34 = .ok (.getfield 201, 3) := by decide +kernel
theorem d_Mg_slipped_37 : decode m_Mg_slipped.2.1 37 = .ok (.iload_n 1, 1) := by decide +kernel
theorem d_Mg_slipped_38 : decode m_Mg_slipped.2.1 38 = .ok (.iload_n 2, 1) := by decide +kernel
theorem d_Mg_slipped_39 : decode m_Mg_slipped.2.1 39 = .ok (.invokevirtual 348, 3) := by decide +kernel
theorem lk_Mg_348 : Cond.methodLink "MaypoleGreen" 348 m_Ch_setSlips.1 ∈ aw_T := aw_in 1144 (by decide +kernel) rfl
theorem in_Ch_setSlips : Cond.instanceMethod m_Ch_setSlips.1 ∈ aw_T := aw_in 1145 (by decide +kernel) rfl
theorem se_Ch_setSlips : Cond.selects m_Ch_setSlips.1.cls m_Ch_setSlips.1 m_Ch_setSlips.1 ∈ aw_T := aw_in 1146 (by decide +kernel) rfl
theorem d_Mg_slipped_42 : decode m_Mg_slipped.2.1 42 = .ok (.aload_n 0, 1) := by decide +kernel
theorem d_Mg_slipped_43 : decode m_Mg_slipped.2.1 43 = .ok (.invokevirtual 121, 3) := by decide +kernel
theorem d_Mg_slipped_46 : decode m_Mg_slipped.2.1 46 = .ok (.ireturn, 1) := by decide +kernel
abbrev m_Mg_drift : aw_MI := (⟨"MaypoleGreen", "drift", "(III)Z"⟩, prog_1_method_40_code, 4, some .boolean)
theorem k_Mg_drift : aw_K m_Mg_drift 3 := ⟨aw_in 1160 (by decide +kernel) rfl, aw_in 1 (by decide +kernel) rfl, ⟨by decide, by decide, by decide +kernel⟩, by decide, by decide +kernel⟩
theorem d_Mg_drift_0 : decode m_Mg_drift.2.1 0 = .ok (.aload_n 0, 1) := by decide +kernel
theorem d_Mg_drift_1 : decode m_Mg_drift.2.1 1 = .ok (.iload_n 1, 1) := by decide +kernel
theorem d_Mg_drift_2 : decode m_Mg_drift.2.1 2 = .ok (.invokevirtual 225, 3) := by decide +kernel
theorem d_Mg_drift_5 : decode m_Mg_drift.2.1 5 = .ok (.ifCond .eq 20, 3) := by decide +kernel
theorem d_Mg_drift_25 : decode m_Mg_drift.2.1 25 = .ok (.aload_n 0, 1) := by decide +kernel
theorem d_Mg_drift_26 : decode m_Mg_drift.2.1 26 = .ok (.iconst 1, 1) := by decide +kernel
theorem d_Mg_drift_27 : decode m_Mg_drift.2.1 27 = .ok (.invokevirtual 114, 3) := by decide +kernel
theorem d_Mg_drift_30 : decode m_Mg_drift.2.1 30 = .ok (.ireturn, 1) := by decide +kernel
theorem d_Mg_drift_8 : decode m_Mg_drift.2.1 8 = .ok (.aload_n 0, 1) := by decide +kernel
theorem d_Mg_drift_9 : decode m_Mg_drift.2.1 9 = .ok (.iload_n 2, 1) := by decide +kernel
theorem d_Mg_drift_10 : decode m_Mg_drift.2.1 10 = .ok (.invokevirtual 243, 3) := by decide +kernel
theorem d_Mg_drift_13 : decode m_Mg_drift.2.1 13 = .ok (.ifCond .eq 12, 3) := by decide +kernel
theorem d_Mg_drift_16 : decode m_Mg_drift.2.1 16 = .ok (.iload_n 3, 1) := by decide +kernel
theorem d_Mg_drift_17 : decode m_Mg_drift.2.1 17 = .ok (.iconst 0, 1) := by decide +kernel
theorem d_Mg_drift_18 : decode m_Mg_drift.2.1 18 = .ok (.iconst 5, 1) := by decide +kernel
theorem d_Mg_drift_19 : decode m_Mg_drift.2.1 19 = .ok (.invokestatic 110, 3) := by decide +kernel
theorem d_Mg_drift_22 : decode m_Mg_drift.2.1 22 = .ok (.ifCond .ne 9, 3) := by decide +kernel
theorem d_Mg_drift_31 : decode m_Mg_drift.2.1 31 = .ok (.aload_n 0, 1) := by decide +kernel
theorem d_Mg_drift_32 : decode m_Mg_drift.2.1 32 = .ok (.getfield 30, 3) := by decide +kernel
theorem d_Mg_drift_35 : decode m_Mg_drift.2.1 35 = .ok (.invokevirtual 191, 3) := by decide +kernel
theorem d_Mg_drift_38 : decode m_Mg_drift.2.1 38 = .ok (.ifCond .ne 14, 3) := by decide +kernel
theorem d_Mg_drift_52 : decode m_Mg_drift.2.1 52 = .ok (.aload_n 0, 1) := by decide +kernel
theorem d_Mg_drift_53 : decode m_Mg_drift.2.1 53 = .ok (.getfield 92, 3) := by decide +kernel
theorem d_Mg_drift_56 : decode m_Mg_drift.2.1 56 = .ok (.aload_n 0, 1) := by decide +kernel
theorem d_Mg_drift_57 : decode m_Mg_drift.2.1 57 = .ok (.getfield 30, 3) := by decide +kernel
theorem d_Mg_drift_60 : decode m_Mg_drift.2.1 60 = .ok (.aload_n 0, 1) := by decide +kernel
theorem d_Mg_drift_61 : decode m_Mg_drift.2.1 61 = .ok (.getfield 30, 3) := by decide +kernel
theorem d_Mg_drift_64 : decode m_Mg_drift.2.1 64 = .ok (.getfield 228, 3) := by decide +kernel
theorem d_Mg_drift_67 : decode m_Mg_drift.2.1 67 = .ok (.iload_n 1, 1) := by decide +kernel
theorem d_Mg_drift_68 : decode m_Mg_drift.2.1 68 = .ok (.iaload, 1) := by decide +kernel
theorem d_Mg_drift_69 : decode m_Mg_drift.2.1 69 = .ok (.iload_n 2, 1) := by decide +kernel
theorem d_Mg_drift_70 : decode m_Mg_drift.2.1 70 = .ok (.iload_n 3, 1) := by decide +kernel
theorem d_Mg_drift_71 : decode m_Mg_drift.2.1 71 = .ok (.invokevirtual 352, 3) := by decide +kernel
theorem lk_Mg_352 : Cond.methodLink "MaypoleGreen" 352 m_Ch_setDrift.1 ∈ aw_T := aw_in 1161 (by decide +kernel) rfl
theorem in_Ch_setDrift : Cond.instanceMethod m_Ch_setDrift.1 ∈ aw_T := aw_in 1162 (by decide +kernel) rfl
theorem se_Ch_setDrift : Cond.selects m_Ch_setDrift.1.cls m_Ch_setDrift.1 m_Ch_setDrift.1 ∈ aw_T := aw_in 1163 (by decide +kernel) rfl
theorem d_Mg_drift_74 : decode m_Mg_drift.2.1 74 = .ok (.aload_n 0, 1) := by decide +kernel
theorem d_Mg_drift_75 : decode m_Mg_drift.2.1 75 = .ok (.invokevirtual 121, 3) := by decide +kernel
theorem d_Mg_drift_78 : decode m_Mg_drift.2.1 78 = .ok (.ireturn, 1) := by decide +kernel
theorem d_Mg_drift_41 : decode m_Mg_drift.2.1 41 = .ok (.iload_n 3, 1) := by decide +kernel
theorem d_Mg_drift_42 : decode m_Mg_drift.2.1 42 = .ok (.ifCond .le 10, 3) := by decide +kernel
theorem d_Mg_drift_45 : decode m_Mg_drift.2.1 45 = .ok (.aload_n 0, 1) := by decide +kernel
theorem d_Mg_drift_46 : decode m_Mg_drift.2.1 46 = .ok (.bipush 6, 2) := by decide +kernel
theorem d_Mg_drift_48 : decode m_Mg_drift.2.1 48 = .ok (.invokevirtual 114, 3) := by decide +kernel
theorem d_Mg_drift_51 : decode m_Mg_drift.2.1 51 = .ok (.ireturn, 1) := by decide +kernel
abbrev m_Mg_share : aw_MI := (⟨"MaypoleGreen", "share", "(I)Z"⟩, prog_1_method_41_code, 2, some .boolean)
theorem k_Mg_share : aw_K m_Mg_share 1 := ⟨aw_in 1174 (by decide +kernel) rfl, aw_in 1 (by decide +kernel) rfl, ⟨by decide, by decide, by decide +kernel⟩, by decide, by decide +kernel⟩
theorem d_Mg_share_0 : decode m_Mg_share.2.1 0 = .ok (.aload_n 0, 1) := by decide +kernel
theorem d_Mg_share_1 : decode m_Mg_share.2.1 1 = .ok (.iload_n 1, 1) := by decide +kernel
theorem d_Mg_share_2 : decode m_Mg_share.2.1 2 = .ok (.invokevirtual 225, 3) := by decide +kernel
theorem d_Mg_share_5 : decode m_Mg_share.2.1 5 = .ok (.ifCond .ne 9, 3) := by decide +kernel
theorem d_Mg_share_14 : decode m_Mg_share.2.1 14 = .ok (.aload_n 0, 1) := by decide +kernel
theorem d_Mg_share_15 : decode m_Mg_share.2.1 15 = .ok (.getfield 30, 3) := by decide +kernel
theorem d_Mg_share_18 : decode m_Mg_share.2.1 18 = .ok (.getfield 195, 3) := by decide +kernel
theorem d_Mg_share_21 : decode m_Mg_share.2.1 21 = .ok (.getfield 198, 3) := by decide +kernel
theorem d_Mg_share_24 : decode m_Mg_share.2.1 24 = .ok (.ifCond .ne 10, 3) := by decide +kernel
theorem d_Mg_share_34 : decode m_Mg_share.2.1 34 = .ok (.aload_n 0, 1) := by decide +kernel
theorem d_Mg_share_35 : decode m_Mg_share.2.1 35 = .ok (.getfield 92, 3) := by decide +kernel
theorem d_Mg_share_38 : decode m_Mg_share.2.1 38 = .ok (.aload_n 0, 1) := by decide +kernel
theorem d_Mg_share_39 : decode m_Mg_share.2.1 39 = .ok (.getfield 30, 3) := by decide +kernel
theorem d_Mg_share_42 : decode m_Mg_share.2.1 42 = .ok (.getfield 195, 3) := by decide +kernel
theorem d_Mg_share_45 : decode m_Mg_share.2.1 45 = .ok (.iload_n 1, 1) := by decide +kernel
theorem d_Mg_share_46 : decode m_Mg_share.2.1 46 = .ok (.invokevirtual 237, 3) := by decide +kernel
theorem d_Mg_share_49 : decode m_Mg_share.2.1 49 = .ok (.i2l, 1) := by decide +kernel
theorem d_Mg_share_50 : decode m_Mg_share.2.1 50 = .ok (.aload_n 0, 1) := by decide +kernel
theorem d_Mg_share_51 : decode m_Mg_share.2.1 51 = .ok (.getfield 30, 3) := by decide +kernel
theorem d_Mg_share_54 : decode m_Mg_share.2.1 54 = .ok (.getfield 195, 3) := by decide +kernel
theorem d_Mg_share_57 : decode m_Mg_share.2.1 57 = .ok (.getfield 198, 3) := by decide +kernel
theorem d_Mg_share_60 : decode m_Mg_share.2.1 60 = .ok (.i2l, 1) := by decide +kernel
theorem d_Mg_share_61 : decode m_Mg_share.2.1 61 = .ok (.invokevirtual 356, 3) := by decide +kernel
theorem lk_Mg_356 : Cond.methodLink "MaypoleGreen" 356 m_Ch_set.1 ∈ aw_T := aw_in 1175 (by decide +kernel) rfl
theorem d_Mg_share_64 : decode m_Mg_share.2.1 64 = .ok (.aload_n 0, 1) := by decide +kernel
theorem d_Mg_share_65 : decode m_Mg_share.2.1 65 = .ok (.invokevirtual 121, 3) := by decide +kernel
theorem d_Mg_share_68 : decode m_Mg_share.2.1 68 = .ok (.ireturn, 1) := by decide +kernel
theorem d_Mg_share_27 : decode m_Mg_share.2.1 27 = .ok (.aload_n 0, 1) := by decide +kernel
theorem d_Mg_share_28 : decode m_Mg_share.2.1 28 = .ok (.bipush 6, 2) := by decide +kernel
theorem d_Mg_share_30 : decode m_Mg_share.2.1 30 = .ok (.invokevirtual 114, 3) := by decide +kernel
theorem d_Mg_share_33 : decode m_Mg_share.2.1 33 = .ok (.ireturn, 1) := by decide +kernel
theorem d_Mg_share_8 : decode m_Mg_share.2.1 8 = .ok (.aload_n 0, 1) := by decide +kernel
theorem d_Mg_share_9 : decode m_Mg_share.2.1 9 = .ok (.iconst 1, 1) := by decide +kernel
theorem d_Mg_share_10 : decode m_Mg_share.2.1 10 = .ok (.invokevirtual 114, 3) := by decide +kernel
theorem d_Mg_share_13 : decode m_Mg_share.2.1 13 = .ok (.ireturn, 1) := by decide +kernel
abbrev m_Mg_copyShows : aw_MI := (⟨"MaypoleGreen", "copyShows", "(I)I"⟩, prog_1_method_42_code, 5, some .int)
theorem k_Mg_copyShows : aw_K m_Mg_copyShows 1 := ⟨aw_in 1179 (by decide +kernel) rfl, aw_in 1 (by decide +kernel) rfl, ⟨by decide, by decide, by decide +kernel⟩, by decide, by decide +kernel⟩
theorem d_Mg_copyShows_0 : decode m_Mg_copyShows.2.1 0 = .ok (.iload_n 1, 1) := by decide +kernel
theorem d_Mg_copyShows_1 : decode m_Mg_copyShows.2.1 1 = .ok (.invokestatic 106, 3) := by decide +kernel
theorem d_Mg_copyShows_4 : decode m_Mg_copyShows.2.1 4 = .ok (.ifCond .ne 9, 3) := by decide +kernel
theorem d_Mg_copyShows_13 : decode m_Mg_copyShows.2.1 13 = .ok (.aload_n 0, 1) := by decide +kernel
theorem d_Mg_copyShows_14 : decode m_Mg_copyShows.2.1 14 = .ok (.getfield 11, 3) := by decide +kernel
theorem d_Mg_copyShows_17 : decode m_Mg_copyShows.2.1 17 = .ok (.iload_n 1, 1) := by decide +kernel
theorem d_Mg_copyShows_18 : decode m_Mg_copyShows.2.1 18 = .ok (.aaload, 1) := by decide +kernel
theorem d_Mg_copyShows_19 : decode m_Mg_copyShows.2.1 19 = .ok (.astore_n 2, 1) := by decide +kernel
theorem d_Mg_copyShows_20 : decode m_Mg_copyShows.2.1 20 = .ok (.aload_n 2, 1) := by decide +kernel
theorem d_Mg_copyShows_21 : decode m_Mg_copyShows.2.1 21 = .ok (.getfield 141, 3) := by decide +kernel
theorem d_Mg_copyShows_24 : decode m_Mg_copyShows.2.1 24 = .ok (.ifCond .ne 9, 3) := by decide +kernel
theorem d_Mg_copyShows_33 : decode m_Mg_copyShows.2.1 33 = .ok (.aload_n 0, 1) := by decide +kernel
theorem d_Mg_copyShows_34 : decode m_Mg_copyShows.2.1 34 = .ok (.getfield 30, 3) := by decide +kernel
theorem d_Mg_copyShows_37 : decode m_Mg_copyShows.2.1 37 = .ok (.invokevirtual 191, 3) := by decide +kernel
theorem d_Mg_copyShows_40 : decode m_Mg_copyShows.2.1 40 = .ok (.istore_n 3, 1) := by decide +kernel
theorem d_Mg_copyShows_41 : decode m_Mg_copyShows.2.1 41 = .ok (.iload_n 3, 1) := by decide +kernel
theorem d_Mg_copyShows_42 : decode m_Mg_copyShows.2.1 42 = .ok (.aload_n 2, 1) := by decide +kernel
theorem d_Mg_copyShows_43 : decode m_Mg_copyShows.2.1 43 = .ok (.getfield 360, 3) := by decide +kernel
theorem d_Mg_copyShows_46 : decode m_Mg_copyShows.2.1 46 = .ok (.if_icmp .le 9, 3) := by decide +kernel
theorem d_Mg_copyShows_55 : decode m_Mg_copyShows.2.1 55 = .ok (.iconst 0, 1) := by decide +kernel
theorem d_Mg_copyShows_56 : decode m_Mg_copyShows.2.1 56 = .ok (.istore 4, 2) := by decide +kernel
theorem d_Mg_copyShows_49 : decode m_Mg_copyShows.2.1 49 = .ok (.aload_n 0, 1) := by decide +kernel
theorem d_Mg_copyShows_50 : decode m_Mg_copyShows.2.1 50 = .ok (.iconst 3, 1) := by decide +kernel
theorem d_Mg_copyShows_51 : decode m_Mg_copyShows.2.1 51 = .ok (.invokevirtual 133, 3) := by decide +kernel
theorem d_Mg_copyShows_54 : decode m_Mg_copyShows.2.1 54 = .ok (.ireturn, 1) := by decide +kernel
theorem d_Mg_copyShows_27 : decode m_Mg_copyShows.2.1 27 = .ok (.aload_n 0, 1) := by decide +kernel
theorem d_Mg_copyShows_28 : decode m_Mg_copyShows.2.1 28 = .ok (.iconst 2, 1) := by decide +kernel
theorem d_Mg_copyShows_29 : decode m_Mg_copyShows.2.1 29 = .ok (.invokevirtual 133, 3) := by decide +kernel
theorem d_Mg_copyShows_32 : decode m_Mg_copyShows.2.1 32 = .ok (.ireturn, 1) := by decide +kernel
theorem d_Mg_copyShows_7 : decode m_Mg_copyShows.2.1 7 = .ok (.aload_n 0, 1) := by decide +kernel
theorem d_Mg_copyShows_8 : decode m_Mg_copyShows.2.1 8 = .ok (.iconst 1, 1) := by decide +kernel
theorem d_Mg_copyShows_9 : decode m_Mg_copyShows.2.1 9 = .ok (.invokevirtual 133, 3) := by decide +kernel
theorem d_Mg_copyShows_12 : decode m_Mg_copyShows.2.1 12 = .ok (.ireturn, 1) := by decide +kernel
theorem d_Mg_copyShows_58 : decode m_Mg_copyShows.2.1 58 = .ok (.iload 4, 2) := by decide +kernel
theorem d_Mg_copyShows_60 : decode m_Mg_copyShows.2.1 60 = .ok (.iload_n 3, 1) := by decide +kernel
theorem d_Mg_copyShows_61 : decode m_Mg_copyShows.2.1 61 = .ok (.if_icmp .ge 35, 3) := by decide +kernel
theorem d_Mg_copyShows_96 : decode m_Mg_copyShows.2.1 96 = .ok (.aload_n 0, 1) := by decide +kernel
theorem d_Mg_copyShows_97 : decode m_Mg_copyShows.2.1 97 = .ok (.iload_n 3, 1) := by decide +kernel
theorem d_Mg_copyShows_98 : decode m_Mg_copyShows.2.1 98 = .ok (.invokevirtual 174, 3) := by decide +kernel
theorem d_Mg_copyShows_101 : decode m_Mg_copyShows.2.1 101 = .ok (.ireturn, 1) := by decide +kernel
theorem d_Mg_copyShows_64 : decode m_Mg_copyShows.2.1 64 = .ok (.aload_n 2, 1) := by decide +kernel
theorem d_Mg_copyShows_65 : decode m_Mg_copyShows.2.1 65 = .ok (.iload 4, 2) := by decide +kernel
theorem d_Mg_copyShows_67 : decode m_Mg_copyShows.2.1 67 = .ok (.aload_n 0, 1) := by decide +kernel
theorem d_Mg_copyShows_68 : decode m_Mg_copyShows.2.1 68 = .ok (.getfield 30, 3) := by decide +kernel
theorem d_Mg_copyShows_71 : decode m_Mg_copyShows.2.1 71 = .ok (.iload 4, 2) := by decide +kernel
theorem d_Mg_copyShows_73 : decode m_Mg_copyShows.2.1 73 = .ok (.aload_n 0, 1) := by decide +kernel
theorem d_Mg_copyShows_74 : decode m_Mg_copyShows.2.1 74 = .ok (.getfield 30, 3) := by decide +kernel
theorem d_Mg_copyShows_77 : decode m_Mg_copyShows.2.1 77 = .ok (.getfield 195, 3) := by decide +kernel
theorem d_Mg_copyShows_80 : decode m_Mg_copyShows.2.1 80 = .ok (.getfield 198, 3) := by decide +kernel
theorem d_Mg_copyShows_83 : decode m_Mg_copyShows.2.1 83 = .ok (.invokevirtual 273, 3) := by decide +kernel
theorem d_Mg_copyShows_86 : decode m_Mg_copyShows.2.1 86 = .ok (.i2l, 1) := by decide +kernel
theorem d_Mg_copyShows_87 : decode m_Mg_copyShows.2.1 87 = .ok (.invokevirtual 129, 3) := by decide +kernel
theorem d_Mg_copyShows_90 : decode m_Mg_copyShows.2.1 90 = .ok (.iinc 4 1, 3) := by decide +kernel
theorem d_Mg_copyShows_93 : decode m_Mg_copyShows.2.1 93 = .ok (.goto (-35), 3) := by decide +kernel
abbrev m_Mg_live : aw_MI := (⟨"MaypoleGreen", "live", "(I)I"⟩, prog_1_method_43_code, 4, some .int)
theorem k_Mg_live : aw_K m_Mg_live 1 := ⟨aw_in 1183 (by decide +kernel) rfl, aw_in 1 (by decide +kernel) rfl, ⟨by decide, by decide, by decide +kernel⟩, by decide, by decide +kernel⟩
theorem d_Mg_live_0 : decode m_Mg_live.2.1 0 = .ok (.iload_n 1, 1) := by decide +kernel
theorem d_Mg_live_1 : decode m_Mg_live.2.1 1 = .ok (.iconst 0, 1) := by decide +kernel
theorem d_Mg_live_2 : decode m_Mg_live.2.1 2 = .ok (.sipush 9999, 3) := by decide +kernel
theorem d_Mg_live_5 : decode m_Mg_live.2.1 5 = .ok (.invokestatic 110, 3) := by decide +kernel
theorem d_Mg_live_8 : decode m_Mg_live.2.1 8 = .ok (.ifCond .ne 9, 3) := by decide +kernel
theorem d_Mg_live_17 : decode m_Mg_live.2.1 17 = .ok (.aload_n 0, 1) := by decide +kernel
theorem d_Mg_live_18 : decode m_Mg_live.2.1 18 = .ok (.getfield 30, 3) := by decide +kernel
theorem d_Mg_live_21 : decode m_Mg_live.2.1 21 = .ok (.getfield 181, 3) := by decide +kernel
theorem d_Mg_live_24 : decode m_Mg_live.2.1 24 = .ok (.getfield 361, 3) := by decide +kernel
theorem f_Mg_361 : aw_F "MaypoleGreen" 361 4 0 false := ⟨cR4, cT4, 7, fun k => cY4.getD k .int, rfl, ci4, cy4, cn4, rfl, by decide, aw_in 89 (by decide +kernel) rfl, rfl, rfl, rfl⟩
theorem d_Mg_live_27 : decode m_Mg_live.2.1 27 = .ok (.ifCond .ne 10, 3) := by decide +kernel
theorem d_Mg_live_37 : decode m_Mg_live.2.1 37 = .ok (.aload_n 0, 1) := by decide +kernel
theorem d_Mg_live_38 : decode m_Mg_live.2.1 38 = .ok (.getfield 30, 3) := by decide +kernel
theorem d_Mg_live_41 : decode m_Mg_live.2.1 41 = .ok (.getfield 210, 3) := by decide +kernel
theorem d_Mg_live_44 : decode m_Mg_live.2.1 44 = .ok (.istore_n 2, 1) := by decide +kernel
theorem d_Mg_live_45 : decode m_Mg_live.2.1 45 = .ok (.aload_n 0, 1) := by decide +kernel
theorem d_Mg_live_46 : decode m_Mg_live.2.1 46 = .ok (.getfield 30, 3) := by decide +kernel
theorem d_Mg_live_49 : decode m_Mg_live.2.1 49 = .ok (.getfield 213, 3) := by decide +kernel
theorem d_Mg_live_52 : decode m_Mg_live.2.1 52 = .ok (.istore_n 3, 1) := by decide +kernel
theorem d_Mg_live_53 : decode m_Mg_live.2.1 53 = .ok (.aload_n 0, 1) := by decide +kernel
theorem d_Mg_live_54 : decode m_Mg_live.2.1 54 = .ok (.getfield 58, 3) := by decide +kernel
theorem f_Mg_58 : aw_F "MaypoleGreen" 58 0 12 true := ⟨cR0, cT0, 19, fun k => cY0.getD k .int, rfl, ci0, cy0, cn0, rfl, by decide, aw_in 435 (by decide +kernel) rfl, rfl, rfl, rfl⟩
theorem d_Mg_live_57 : decode m_Mg_live.2.1 57 = .ok (.aload_n 0, 1) := by decide +kernel
theorem d_Mg_live_58 : decode m_Mg_live.2.1 58 = .ok (.getfield 30, 3) := by decide +kernel
theorem d_Mg_live_61 : decode m_Mg_live.2.1 61 = .ok (.aload_n 0, 1) := by decide +kernel
theorem d_Mg_live_62 : decode m_Mg_live.2.1 62 = .ok (.getfield 30, 3) := by decide +kernel
theorem d_Mg_live_65 : decode m_Mg_live.2.1 65 = .ok (.getfield 181, 3) := by decide +kernel
theorem d_Mg_live_68 : decode m_Mg_live.2.1 68 = .ok (.iload_n 1, 1) := by decide +kernel
theorem d_Mg_live_69 : decode m_Mg_live.2.1 69 = .ok (.invokevirtual 362, 3) := by decide +kernel
theorem lk_Mg_362 : Cond.methodLink "MaypoleGreen" 362 m_Li_begin.1 ∈ aw_T := aw_in 1184 (by decide +kernel) rfl
theorem in_Li_begin : Cond.instanceMethod m_Li_begin.1 ∈ aw_T := aw_in 1185 (by decide +kernel) rfl
theorem se_Li_begin : Cond.selects m_Li_begin.1.cls m_Li_begin.1 m_Li_begin.1 ∈ aw_T := aw_in 1186 (by decide +kernel) rfl
theorem d_Mg_live_72 : decode m_Mg_live.2.1 72 = .ok (.aload_n 0, 1) := by decide +kernel
theorem d_Mg_live_73 : decode m_Mg_live.2.1 73 = .ok (.getfield 58, 3) := by decide +kernel
theorem d_Mg_live_76 : decode m_Mg_live.2.1 76 = .ok (.iconst 0, 1) := by decide +kernel
theorem d_Mg_live_77 : decode m_Mg_live.2.1 77 = .ok (.aload_n 0, 1) := by decide +kernel
theorem d_Mg_live_78 : decode m_Mg_live.2.1 78 = .ok (.getfield 30, 3) := by decide +kernel
theorem d_Mg_live_81 : decode m_Mg_live.2.1 81 = .ok (.getfield 181, 3) := by decide +kernel
theorem d_Mg_live_84 : decode m_Mg_live.2.1 84 = .ok (.getfield 188, 3) := by decide +kernel
theorem d_Mg_live_87 : decode m_Mg_live.2.1 87 = .ok (.iconst 0, 1) := by decide +kernel
theorem d_Mg_live_88 : decode m_Mg_live.2.1 88 = .ok (.invokevirtual 366, 3) := by decide +kernel
theorem ln_Mg_366 : Cond.methodLinkNest "MaypoleGreen" 366 m_Li_doBlock.1 "MaypoleGreen" ∈ tables_1 := List.mem_of_getElem? (i := 1188) (by decide +kernel)
theorem d_Mg_live_91 : decode m_Mg_live.2.1 91 = .ok (.aload_n 0, 1) := by decide +kernel
theorem d_Mg_live_92 : decode m_Mg_live.2.1 92 = .ok (.getfield 62, 3) := by decide +kernel
theorem f_Mg_62 : aw_F "MaypoleGreen" 62 0 13 true := ⟨cR0, cT0, 19, fun k => cY0.getD k .int, rfl, ci0, cy0, cn0, rfl, by decide, aw_in 436 (by decide +kernel) rfl, rfl, rfl, rfl⟩
theorem d_Mg_live_95 : decode m_Mg_live.2.1 95 = .ok (.iconst 0, 1) := by decide +kernel
theorem d_Mg_live_96 : decode m_Mg_live.2.1 96 = .ok (.aload_n 0, 1) := by decide +kernel
theorem d_Mg_live_97 : decode m_Mg_live.2.1 97 = .ok (.getfield 58, 3) := by decide +kernel
theorem d_Mg_live_100 : decode m_Mg_live.2.1 100 = .ok (.getfield 369, 3) := by decide +kernel
theorem f_Mg_369 : aw_F "MaypoleGreen" 369 7 1 false := ⟨cR7, cT7, 7, fun k => cY7.getD k .int, rfl, ci7, cy7, cn7, rfl, by decide, aw_in 329 (by decide +kernel) rfl, rfl, rfl, rfl⟩
theorem d_Mg_live_103 : decode m_Mg_live.2.1 103 = .ok (.iastore, 1) := by decide +kernel
theorem d_Mg_live_104 : decode m_Mg_live.2.1 104 = .ok (.aload_n 0, 1) := by decide +kernel
theorem d_Mg_live_105 : decode m_Mg_live.2.1 105 = .ok (.getfield 62, 3) := by decide +kernel
theorem d_Mg_live_108 : decode m_Mg_live.2.1 108 = .ok (.iconst 2, 1) := by decide +kernel
theorem d_Mg_live_109 : decode m_Mg_live.2.1 109 = .ok (.aload_n 0, 1) := by decide +kernel
theorem d_Mg_live_110 : decode m_Mg_live.2.1 110 = .ok (.getfield 30, 3) := by decide +kernel
theorem d_Mg_live_113 : decode m_Mg_live.2.1 113 = .ok (.getfield 210, 3) := by decide +kernel
theorem d_Mg_live_116 : decode m_Mg_live.2.1 116 = .ok (.iload_n 2, 1) := by decide +kernel
theorem d_Mg_live_117 : decode m_Mg_live.2.1 117 = .ok (.isub, 1) := by decide +kernel
theorem d_Mg_live_118 : decode m_Mg_live.2.1 118 = .ok (.iastore, 1) := by decide +kernel
theorem d_Mg_live_119 : decode m_Mg_live.2.1 119 = .ok (.aload_n 0, 1) := by decide +kernel
theorem d_Mg_live_120 : decode m_Mg_live.2.1 120 = .ok (.getfield 62, 3) := by decide +kernel
theorem d_Mg_live_123 : decode m_Mg_live.2.1 123 = .ok (.iconst 3, 1) := by decide +kernel
theorem d_Mg_live_124 : decode m_Mg_live.2.1 124 = .ok (.aload_n 0, 1) := by decide +kernel
theorem d_Mg_live_125 : decode m_Mg_live.2.1 125 = .ok (.getfield 30, 3) := by decide +kernel
theorem d_Mg_live_128 : decode m_Mg_live.2.1 128 = .ok (.getfield 213, 3) := by decide +kernel
theorem d_Mg_live_131 : decode m_Mg_live.2.1 131 = .ok (.iload_n 3, 1) := by decide +kernel
theorem d_Mg_live_132 : decode m_Mg_live.2.1 132 = .ok (.isub, 1) := by decide +kernel
theorem d_Mg_live_133 : decode m_Mg_live.2.1 133 = .ok (.iastore, 1) := by decide +kernel
theorem d_Mg_live_134 : decode m_Mg_live.2.1 134 = .ok (.aload_n 0, 1) := by decide +kernel
theorem d_Mg_live_135 : decode m_Mg_live.2.1 135 = .ok (.getfield 62, 3) := by decide +kernel
theorem d_Mg_live_138 : decode m_Mg_live.2.1 138 = .ok (.iconst 1, 1) := by decide +kernel
theorem d_Mg_live_139 : decode m_Mg_live.2.1 139 = .ok (.aload_n 0, 1) := by decide +kernel
theorem d_Mg_live_140 : decode m_Mg_live.2.1 140 = .ok (.getfield 62, 3) := by decide +kernel
theorem d_Mg_live_143 : decode m_Mg_live.2.1 143 = .ok (.iconst 2, 1) := by decide +kernel
theorem d_Mg_live_144 : decode m_Mg_live.2.1 144 = .ok (.iaload, 1) := by decide +kernel
theorem d_Mg_live_145 : decode m_Mg_live.2.1 145 = .ok (.aload_n 0, 1) := by decide +kernel
theorem d_Mg_live_146 : decode m_Mg_live.2.1 146 = .ok (.getfield 62, 3) := by decide +kernel
theorem d_Mg_live_149 : decode m_Mg_live.2.1 149 = .ok (.iconst 3, 1) := by decide +kernel
theorem d_Mg_live_150 : decode m_Mg_live.2.1 150 = .ok (.iaload, 1) := by decide +kernel
theorem d_Mg_live_151 : decode m_Mg_live.2.1 151 = .ok (.iadd, 1) := by decide +kernel
theorem d_Mg_live_152 : decode m_Mg_live.2.1 152 = .ok (.iastore, 1) := by decide +kernel
theorem d_Mg_live_153 : decode m_Mg_live.2.1 153 = .ok (.aload_n 0, 1) := by decide +kernel
theorem d_Mg_live_154 : decode m_Mg_live.2.1 154 = .ok (.getfield 62, 3) := by decide +kernel
theorem d_Mg_live_157 : decode m_Mg_live.2.1 157 = .ok (.iconst 4, 1) := by decide +kernel
theorem d_Mg_live_158 : decode m_Mg_live.2.1 158 = .ok (.aload_n 0, 1) := by decide +kernel
theorem d_Mg_live_159 : decode m_Mg_live.2.1 159 = .ok (.getfield 58, 3) := by decide +kernel
theorem d_Mg_live_162 : decode m_Mg_live.2.1 162 = .ok (.getfield 372, 3) := by decide +kernel
theorem f_Mg_372 : aw_F "MaypoleGreen" 372 7 2 false := ⟨cR7, cT7, 7, fun k => cY7.getD k .int, rfl, ci7, cy7, cn7, rfl, by decide, aw_in 331 (by decide +kernel) rfl, rfl, rfl, rfl⟩
theorem d_Mg_live_165 : decode m_Mg_live.2.1 165 = .ok (.iastore, 1) := by decide +kernel
theorem d_Mg_live_166 : decode m_Mg_live.2.1 166 = .ok (.aload_n 0, 1) := by decide +kernel
theorem d_Mg_live_167 : decode m_Mg_live.2.1 167 = .ok (.iconst 1, 1) := by decide +kernel
theorem d_Mg_live_168 : decode m_Mg_live.2.1 168 = .ok (.putfield 374, 3) := by decide +kernel
theorem f_Mg_374 : aw_F "MaypoleGreen" 374 0 14 false := ⟨cR0, cT0, 19, fun k => cY0.getD k .int, rfl, ci0, cy0, cn0, rfl, by decide, aw_in 437 (by decide +kernel) rfl, rfl, rfl, rfl⟩
theorem d_Mg_live_171 : decode m_Mg_live.2.1 171 = .ok (.aload_n 0, 1) := by decide +kernel
theorem d_Mg_live_172 : decode m_Mg_live.2.1 172 = .ok (.aload_n 0, 1) := by decide +kernel
theorem d_Mg_live_173 : decode m_Mg_live.2.1 173 = .ok (.getfield 58, 3) := by decide +kernel
theorem d_Mg_live_176 : decode m_Mg_live.2.1 176 = .ok (.getfield 377, 3) := by decide +kernel
theorem f_Mg_377 : aw_F "MaypoleGreen" 377 7 0 false := ⟨cR7, cT7, 7, fun k => cY7.getD k .int, rfl, ci7, cy7, cn7, rfl, by decide, aw_in 327 (by decide +kernel) rfl, rfl, rfl, rfl⟩
theorem d_Mg_live_179 : decode m_Mg_live.2.1 179 = .ok (.invokevirtual 174, 3) := by decide +kernel
theorem d_Mg_live_182 : decode m_Mg_live.2.1 182 = .ok (.ireturn, 1) := by decide +kernel
theorem d_Mg_live_30 : decode m_Mg_live.2.1 30 = .ok (.aload_n 0, 1) := by decide +kernel
theorem d_Mg_live_31 : decode m_Mg_live.2.1 31 = .ok (.bipush 6, 2) := by decide +kernel
theorem d_Mg_live_33 : decode m_Mg_live.2.1 33 = .ok (.invokevirtual 133, 3) := by decide +kernel
theorem d_Mg_live_36 : decode m_Mg_live.2.1 36 = .ok (.ireturn, 1) := by decide +kernel
theorem d_Mg_live_11 : decode m_Mg_live.2.1 11 = .ok (.aload_n 0, 1) := by decide +kernel
theorem d_Mg_live_12 : decode m_Mg_live.2.1 12 = .ok (.iconst 1, 1) := by decide +kernel
theorem d_Mg_live_13 : decode m_Mg_live.2.1 13 = .ok (.invokevirtual 133, 3) := by decide +kernel
theorem d_Mg_live_16 : decode m_Mg_live.2.1 16 = .ok (.ireturn, 1) := by decide +kernel
abbrev m_Mg_lived : aw_MI := (⟨"MaypoleGreen", "lived", "(I)I"⟩, prog_1_method_44_code, 2, some .int)
theorem k_Mg_lived : aw_K m_Mg_lived 1 := ⟨aw_in 1231 (by decide +kernel) rfl, aw_in 1 (by decide +kernel) rfl, ⟨by decide, by decide, by decide +kernel⟩, by decide, by decide +kernel⟩
theorem d_Mg_lived_0 : decode m_Mg_lived.2.1 0 = .ok (.iload_n 1, 1) := by decide +kernel
theorem d_Mg_lived_1 : decode m_Mg_lived.2.1 1 = .ok (.iconst 0, 1) := by decide +kernel
theorem d_Mg_lived_2 : decode m_Mg_lived.2.1 2 = .ok (.iconst 4, 1) := by decide +kernel
theorem d_Mg_lived_3 : decode m_Mg_lived.2.1 3 = .ok (.invokestatic 110, 3) := by decide +kernel
theorem d_Mg_lived_6 : decode m_Mg_lived.2.1 6 = .ok (.ifCond .ne 9, 3) := by decide +kernel
theorem d_Mg_lived_15 : decode m_Mg_lived.2.1 15 = .ok (.aload_n 0, 1) := by decide +kernel
theorem d_Mg_lived_16 : decode m_Mg_lived.2.1 16 = .ok (.getfield 374, 3) := by decide +kernel
theorem d_Mg_lived_19 : decode m_Mg_lived.2.1 19 = .ok (.ifCond .eq 16, 3) := by decide +kernel
theorem d_Mg_lived_35 : decode m_Mg_lived.2.1 35 = .ok (.aload_n 0, 1) := by decide +kernel
theorem d_Mg_lived_36 : decode m_Mg_lived.2.1 36 = .ok (.bipush 6, 2) := by decide +kernel
theorem d_Mg_lived_38 : decode m_Mg_lived.2.1 38 = .ok (.invokevirtual 133, 3) := by decide +kernel
theorem d_Mg_lived_41 : decode m_Mg_lived.2.1 41 = .ok (.ireturn, 1) := by decide +kernel
theorem d_Mg_lived_22 : decode m_Mg_lived.2.1 22 = .ok (.aload_n 0, 1) := by decide +kernel
theorem d_Mg_lived_23 : decode m_Mg_lived.2.1 23 = .ok (.aload_n 0, 1) := by decide +kernel
theorem d_Mg_lived_24 : decode m_Mg_lived.2.1 24 = .ok (.getfield 62, 3) := by decide +kernel
theorem d_Mg_lived_27 : decode m_Mg_lived.2.1 27 = .ok (.iload_n 1, 1) := by decide +kernel
theorem d_Mg_lived_28 : decode m_Mg_lived.2.1 28 = .ok (.iaload, 1) := by decide +kernel
theorem d_Mg_lived_29 : decode m_Mg_lived.2.1 29 = .ok (.invokevirtual 174, 3) := by decide +kernel
theorem d_Mg_lived_32 : decode m_Mg_lived.2.1 32 = .ok (.goto 9, 3) := by decide +kernel
theorem d_Mg_lived_9 : decode m_Mg_lived.2.1 9 = .ok (.aload_n 0, 1) := by decide +kernel
theorem d_Mg_lived_10 : decode m_Mg_lived.2.1 10 = .ok (.iconst 1, 1) := by decide +kernel
theorem d_Mg_lived_11 : decode m_Mg_lived.2.1 11 = .ok (.invokevirtual 133, 3) := by decide +kernel
theorem d_Mg_lived_14 : decode m_Mg_lived.2.1 14 = .ok (.ireturn, 1) := by decide +kernel
abbrev m_Mg_mean : aw_MI := (⟨"MaypoleGreen", "mean", "(II)Z"⟩, prog_1_method_45_code, 5, some .boolean)
theorem k_Mg_mean : aw_K m_Mg_mean 2 := ⟨aw_in 1235 (by decide +kernel) rfl, aw_in 1 (by decide +kernel) rfl, ⟨by decide, by decide, by decide +kernel⟩, by decide, by decide +kernel⟩
theorem d_Mg_mean_0 : decode m_Mg_mean.2.1 0 = .ok (.iload_n 1, 1) := by decide +kernel
theorem d_Mg_mean_1 : decode m_Mg_mean.2.1 1 = .ok (.iconst 0, 1) := by decide +kernel
theorem d_Mg_mean_2 : decode m_Mg_mean.2.1 2 = .ok (.sipush 9999, 3) := by decide +kernel
theorem d_Mg_mean_5 : decode m_Mg_mean.2.1 5 = .ok (.invokestatic 110, 3) := by decide +kernel
theorem d_Mg_mean_8 : decode m_Mg_mean.2.1 8 = .ok (.ifCond .eq 24, 3) := by decide +kernel
theorem d_Mg_mean_32 : decode m_Mg_mean.2.1 32 = .ok (.aload_n 0, 1) := by decide +kernel
theorem d_Mg_mean_33 : decode m_Mg_mean.2.1 33 = .ok (.iconst 1, 1) := by decide +kernel
theorem d_Mg_mean_34 : decode m_Mg_mean.2.1 34 = .ok (.invokevirtual 114, 3) := by decide +kernel
theorem d_Mg_mean_37 : decode m_Mg_mean.2.1 37 = .ok (.ireturn, 1) := by decide +kernel
theorem d_Mg_mean_11 : decode m_Mg_mean.2.1 11 = .ok (.iload_n 2, 1) := by decide +kernel
theorem d_Mg_mean_12 : decode m_Mg_mean.2.1 12 = .ok (.iconst 1, 1) := by decide +kernel
theorem d_Mg_mean_13 : decode m_Mg_mean.2.1 13 = .ok (.bipush 20, 2) := by decide +kernel
theorem d_Mg_mean_15 : decode m_Mg_mean.2.1 15 = .ok (.invokestatic 110, 3) := by decide +kernel
theorem d_Mg_mean_18 : decode m_Mg_mean.2.1 18 = .ok (.ifCond .eq 14, 3) := by decide +kernel
theorem d_Mg_mean_21 : decode m_Mg_mean.2.1 21 = .ok (.iload_n 1, 1) := by decide +kernel
theorem d_Mg_mean_22 : decode m_Mg_mean.2.1 22 = .ok (.iload_n 2, 1) := by decide +kernel
theorem d_Mg_mean_23 : decode m_Mg_mean.2.1 23 = .ok (.iadd, 1) := by decide +kernel
theorem d_Mg_mean_24 : decode m_Mg_mean.2.1 24 = .ok (.iconst 1, 1) := by decide +kernel
theorem d_Mg_mean_25 : decode m_Mg_mean.2.1 25 = .ok (.isub, 1) := by decide +kernel
theorem d_Mg_mean_26 : decode m_Mg_mean.2.1 26 = .ok (.sipush 9999, 3) := by decide +kernel
theorem d_Mg_mean_29 : decode m_Mg_mean.2.1 29 = .ok (.if_icmp .le 9, 3) := by decide +kernel
theorem d_Mg_mean_38 : decode m_Mg_mean.2.1 38 = .ok (.aload_n 0, 1) := by decide +kernel
theorem d_Mg_mean_39 : decode m_Mg_mean.2.1 39 = .ok (.getfield 30, 3) := by decide +kernel
theorem d_Mg_mean_42 : decode m_Mg_mean.2.1 42 = .ok (.getfield 181, 3) := by decide +kernel
theorem d_Mg_mean_45 : decode m_Mg_mean.2.1 45 = .ok (.getfield 361, 3) := by decide +kernel
theorem d_Mg_mean_48 : decode m_Mg_mean.2.1 48 = .ok (.ifCond .ne 10, 3) := by decide +kernel
theorem d_Mg_mean_58 : decode m_Mg_mean.2.1 58 = .ok (.iconst 0, 1) := by decide +kernel
theorem d_Mg_mean_59 : decode m_Mg_mean.2.1 59 = .ok (.istore_n 3, 1) := by decide +kernel
theorem d_Mg_mean_60 : decode m_Mg_mean.2.1 60 = .ok (.iconst 0, 1) := by decide +kernel
theorem d_Mg_mean_61 : decode m_Mg_mean.2.1 61 = .ok (.istore 4, 2) := by decide +kernel
theorem d_Mg_mean_51 : decode m_Mg_mean.2.1 51 = .ok (.aload_n 0, 1) := by decide +kernel
theorem d_Mg_mean_52 : decode m_Mg_mean.2.1 52 = .ok (.bipush 6, 2) := by decide +kernel
theorem d_Mg_mean_54 : decode m_Mg_mean.2.1 54 = .ok (.invokevirtual 114, 3) := by decide +kernel
theorem d_Mg_mean_57 : decode m_Mg_mean.2.1 57 = .ok (.ireturn, 1) := by decide +kernel
theorem d_Mg_mean_63 : decode m_Mg_mean.2.1 63 = .ok (.iload 4, 2) := by decide +kernel
theorem d_Mg_mean_65 : decode m_Mg_mean.2.1 65 = .ok (.iload_n 2, 1) := by decide +kernel
theorem d_Mg_mean_66 : decode m_Mg_mean.2.1 66 = .ok (.if_icmp .ge 74, 3) := by decide +kernel
theorem d_Mg_mean_140 : decode m_Mg_mean.2.1 140 = .ok (.aload_n 0, 1) := by decide +kernel
theorem d_Mg_mean_141 : decode m_Mg_mean.2.1 141 = .ok (.getfield 92, 3) := by decide +kernel
theorem d_Mg_mean_144 : decode m_Mg_mean.2.1 144 = .ok (.iload_n 3, 1) := by decide +kernel
theorem d_Mg_mean_145 : decode m_Mg_mean.2.1 145 = .ok (.i2l, 1) := by decide +kernel
theorem d_Mg_mean_146 : decode m_Mg_mean.2.1 146 = .ok (.iload_n 2, 1) := by decide +kernel
theorem d_Mg_mean_147 : decode m_Mg_mean.2.1 147 = .ok (.i2l, 1) := by decide +kernel
theorem d_Mg_mean_148 : decode m_Mg_mean.2.1 148 = .ok (.invokevirtual 356, 3) := by decide +kernel
theorem d_Mg_mean_151 : decode m_Mg_mean.2.1 151 = .ok (.aload_n 0, 1) := by decide +kernel
theorem d_Mg_mean_152 : decode m_Mg_mean.2.1 152 = .ok (.invokevirtual 121, 3) := by decide +kernel
theorem d_Mg_mean_155 : decode m_Mg_mean.2.1 155 = .ok (.ireturn, 1) := by decide +kernel
theorem d_Mg_mean_69 : decode m_Mg_mean.2.1 69 = .ok (.aload_n 0, 1) := by decide +kernel
theorem d_Mg_mean_70 : decode m_Mg_mean.2.1 70 = .ok (.getfield 34, 3) := by decide +kernel
theorem d_Mg_mean_73 : decode m_Mg_mean.2.1 73 = .ok (.aload_n 0, 1) := by decide +kernel
theorem d_Mg_mean_74 : decode m_Mg_mean.2.1 74 = .ok (.getfield 30, 3) := by decide +kernel
theorem d_Mg_mean_77 : decode m_Mg_mean.2.1 77 = .ok (.invokevirtual 380, 3) := by decide +kernel
theorem d_Mg_mean_80 : decode m_Mg_mean.2.1 80 = .ok (.aload_n 0, 1) := by decide +kernel
theorem d_Mg_mean_81 : decode m_Mg_mean.2.1 81 = .ok (.getfield 58, 3) := by decide +kernel
theorem d_Mg_mean_84 : decode m_Mg_mean.2.1 84 = .ok (.aload_n 0, 1) := by decide +kernel
theorem d_Mg_mean_85 : decode m_Mg_mean.2.1 85 = .ok (.getfield 34, 3) := by decide +kernel
theorem d_Mg_mean_88 : decode m_Mg_mean.2.1 88 = .ok (.aload_n 0, 1) := by decide +kernel
theorem d_Mg_mean_89 : decode m_Mg_mean.2.1 89 = .ok (.getfield 30, 3) := by decide +kernel
theorem d_Mg_mean_92 : decode m_Mg_mean.2.1 92 = .ok (.getfield 181, 3) := by decide +kernel
theorem d_Mg_mean_95 : decode m_Mg_mean.2.1 95 = .ok (.iload_n 1, 1) := by decide +kernel
theorem d_Mg_mean_96 : decode m_Mg_mean.2.1 96 = .ok (.iload 4, 2) := by decide +kernel
theorem d_Mg_mean_98 : decode m_Mg_mean.2.1 98 = .ok (.iadd, 1) := by decide +kernel
theorem d_Mg_mean_99 : decode m_Mg_mean.2.1 99 = .ok (.invokevirtual 362, 3) := by decide +kernel
theorem d_Mg_mean_102 : decode m_Mg_mean.2.1 102 = .ok (.aload_n 0, 1) := by decide +kernel
theorem d_Mg_mean_103 : decode m_Mg_mean.2.1 103 = .ok (.getfield 58, 3) := by decide +kernel
theorem d_Mg_mean_106 : decode m_Mg_mean.2.1 106 = .ok (.iconst 0, 1) := by decide +kernel
theorem d_Mg_mean_107 : decode m_Mg_mean.2.1 107 = .ok (.aload_n 0, 1) := by decide +kernel
theorem d_Mg_mean_108 : decode m_Mg_mean.2.1 108 = .ok (.getfield 30, 3) := by decide +kernel
theorem d_Mg_mean_111 : decode m_Mg_mean.2.1 111 = .ok (.getfield 181, 3) := by decide +kernel
theorem d_Mg_mean_114 : decode m_Mg_mean.2.1 114 = .ok (.getfield 188, 3) := by decide +kernel
theorem d_Mg_mean_117 : decode m_Mg_mean.2.1 117 = .ok (.iconst 0, 1) := by decide +kernel
theorem d_Mg_mean_118 : decode m_Mg_mean.2.1 118 = .ok (.invokevirtual 366, 3) := by decide +kernel
theorem d_Mg_mean_121 : decode m_Mg_mean.2.1 121 = .ok (.iload_n 3, 1) := by decide +kernel
theorem d_Mg_mean_122 : decode m_Mg_mean.2.1 122 = .ok (.aload_n 0, 1) := by decide +kernel
theorem d_Mg_mean_123 : decode m_Mg_mean.2.1 123 = .ok (.getfield 34, 3) := by decide +kernel
theorem d_Mg_mean_126 : decode m_Mg_mean.2.1 126 = .ok (.getfield 195, 3) := by decide +kernel
theorem d_Mg_mean_129 : decode m_Mg_mean.2.1 129 = .ok (.getfield 198, 3) := by decide +kernel
theorem d_Mg_mean_132 : decode m_Mg_mean.2.1 132 = .ok (.iadd, 1) := by decide +kernel
theorem d_Mg_mean_133 : decode m_Mg_mean.2.1 133 = .ok (.istore_n 3, 1) := by decide +kernel
theorem d_Mg_mean_134 : decode m_Mg_mean.2.1 134 = .ok (.iinc 4 1, 3) := by decide +kernel
theorem d_Mg_mean_137 : decode m_Mg_mean.2.1 137 = .ok (.goto (-74), 3) := by decide +kernel
abbrev m_Mg_mark : aw_MI := (⟨"MaypoleGreen", "mark", "()I"⟩, prog_1_method_46_code, 1, some .int)
theorem k_Mg_mark : aw_K m_Mg_mark 0 := ⟨aw_in 1239 (by decide +kernel) rfl, aw_in 1 (by decide +kernel) rfl, ⟨by decide, by decide, by decide +kernel⟩, by decide, by decide +kernel⟩
theorem d_Mg_mark_0 : decode m_Mg_mark.2.1 0 = .ok (.aload_n 0, 1) := by decide +kernel
theorem d_Mg_mark_1 : decode m_Mg_mark.2.1 1 = .ok (.getfield 383, 3) := by decide +kernel
theorem f_Mg_383 : aw_F "MaypoleGreen" 383 0 9 false := ⟨cR0, cT0, 19, fun k => cY0.getD k .int, rfl, ci0, cy0, cn0, rfl, by decide, aw_in 432 (by decide +kernel) rfl, rfl, rfl, rfl⟩
theorem d_Mg_mark_4 : decode m_Mg_mark.2.1 4 = .ok (.iconst 3, 1) := by decide +kernel
theorem d_Mg_mark_5 : decode m_Mg_mark.2.1 5 = .ok (.if_icmp .lt 9, 3) := by decide +kernel
theorem d_Mg_mark_14 : decode m_Mg_mark.2.1 14 = .ok (.aload_n 0, 1) := by decide +kernel
theorem d_Mg_mark_15 : decode m_Mg_mark.2.1 15 = .ok (.getfield 37, 3) := by decide +kernel
theorem f_Mg_37 : aw_F "MaypoleGreen" 37 0 8 true := ⟨cR0, cT0, 19, fun k => cY0.getD k .int, rfl, ci0, cy0, cn0, rfl, by decide, aw_in 431 (by decide +kernel) rfl, rfl, rfl, rfl⟩
theorem d_Mg_mark_18 : decode m_Mg_mark.2.1 18 = .ok (.aload_n 0, 1) := by decide +kernel
theorem d_Mg_mark_19 : decode m_Mg_mark.2.1 19 = .ok (.getfield 383, 3) := by decide +kernel
theorem d_Mg_mark_22 : decode m_Mg_mark.2.1 22 = .ok (.aaload, 1) := by decide +kernel
theorem d_Mg_mark_23 : decode m_Mg_mark.2.1 23 = .ok (.aload_n 0, 1) := by decide +kernel
theorem d_Mg_mark_24 : decode m_Mg_mark.2.1 24 = .ok (.getfield 30, 3) := by decide +kernel
theorem d_Mg_mark_27 : decode m_Mg_mark.2.1 27 = .ok (.invokevirtual 380, 3) := by decide +kernel
theorem d_Mg_mark_30 : decode m_Mg_mark.2.1 30 = .ok (.aload_n 0, 1) := by decide +kernel
theorem d_Mg_mark_31 : decode m_Mg_mark.2.1 31 = .ok (.getfield 37, 3) := by decide +kernel
theorem d_Mg_mark_34 : decode m_Mg_mark.2.1 34 = .ok (.aload_n 0, 1) := by decide +kernel
theorem d_Mg_mark_35 : decode m_Mg_mark.2.1 35 = .ok (.getfield 383, 3) := by decide +kernel
theorem d_Mg_mark_38 : decode m_Mg_mark.2.1 38 = .ok (.aaload, 1) := by decide +kernel
theorem d_Mg_mark_39 : decode m_Mg_mark.2.1 39 = .ok (.getfield 181, 3) := by decide +kernel
theorem d_Mg_mark_42 : decode m_Mg_mark.2.1 42 = .ok (.aload_n 0, 1) := by decide +kernel
theorem d_Mg_mark_43 : decode m_Mg_mark.2.1 43 = .ok (.getfield 30, 3) := by decide +kernel
theorem d_Mg_mark_46 : decode m_Mg_mark.2.1 46 = .ok (.getfield 181, 3) := by decide +kernel
theorem d_Mg_mark_49 : decode m_Mg_mark.2.1 49 = .ok (.invokevirtual 184, 3) := by decide +kernel
theorem d_Mg_mark_52 : decode m_Mg_mark.2.1 52 = .ok (.aload_n 0, 1) := by decide +kernel
theorem d_Mg_mark_53 : decode m_Mg_mark.2.1 53 = .ok (.dup, 1) := by decide +kernel
theorem d_Mg_mark_54 : decode m_Mg_mark.2.1 54 = .ok (.getfield 383, 3) := by decide +kernel
theorem d_Mg_mark_57 : decode m_Mg_mark.2.1 57 = .ok (.iconst 1, 1) := by decide +kernel
theorem d_Mg_mark_58 : decode m_Mg_mark.2.1 58 = .ok (.iadd, 1) := by decide +kernel
theorem d_Mg_mark_59 : decode m_Mg_mark.2.1 59 = .ok (.putfield 383, 3) := by decide +kernel
theorem d_Mg_mark_62 : decode m_Mg_mark.2.1 62 = .ok (.aload_n 0, 1) := by decide +kernel
theorem d_Mg_mark_63 : decode m_Mg_mark.2.1 63 = .ok (.aload_n 0, 1) := by decide +kernel
theorem d_Mg_mark_64 : decode m_Mg_mark.2.1 64 = .ok (.getfield 383, 3) := by decide +kernel
theorem d_Mg_mark_67 : decode m_Mg_mark.2.1 67 = .ok (.invokevirtual 174, 3) := by decide +kernel
theorem d_Mg_mark_70 : decode m_Mg_mark.2.1 70 = .ok (.ireturn, 1) := by decide +kernel
theorem d_Mg_mark_8 : decode m_Mg_mark.2.1 8 = .ok (.aload_n 0, 1) := by decide +kernel
theorem d_Mg_mark_9 : decode m_Mg_mark.2.1 9 = .ok (.iconst 4, 1) := by decide +kernel
theorem d_Mg_mark_10 : decode m_Mg_mark.2.1 10 = .ok (.invokevirtual 133, 3) := by decide +kernel
theorem d_Mg_mark_13 : decode m_Mg_mark.2.1 13 = .ok (.ireturn, 1) := by decide +kernel
abbrev m_Mg_undo : aw_MI := (⟨"MaypoleGreen", "undo", "()I"⟩, prog_1_method_47_code, 1, some .int)
theorem k_Mg_undo : aw_K m_Mg_undo 0 := ⟨aw_in 1243 (by decide +kernel) rfl, aw_in 1 (by decide +kernel) rfl, ⟨by decide, by decide, by decide +kernel⟩, by decide, by decide +kernel⟩
theorem d_Mg_undo_0 : decode m_Mg_undo.2.1 0 = .ok (.aload_n 0, 1) := by decide +kernel
theorem d_Mg_undo_1 : decode m_Mg_undo.2.1 1 = .ok (.getfield 383, 3) := by decide +kernel
theorem d_Mg_undo_4 : decode m_Mg_undo.2.1 4 = .ok (.ifCond .ne 10, 3) := by decide +kernel
theorem d_Mg_undo_14 : decode m_Mg_undo.2.1 14 = .ok (.aload_n 0, 1) := by decide +kernel
theorem d_Mg_undo_15 : decode m_Mg_undo.2.1 15 = .ok (.dup, 1) := by decide +kernel
theorem d_Mg_undo_16 : decode m_Mg_undo.2.1 16 = .ok (.getfield 383, 3) := by decide +kernel
theorem d_Mg_undo_19 : decode m_Mg_undo.2.1 19 = .ok (.iconst 1, 1) := by decide +kernel
theorem d_Mg_undo_20 : decode m_Mg_undo.2.1 20 = .ok (.isub, 1) := by decide +kernel
theorem d_Mg_undo_21 : decode m_Mg_undo.2.1 21 = .ok (.putfield 383, 3) := by decide +kernel
theorem d_Mg_undo_24 : decode m_Mg_undo.2.1 24 = .ok (.aload_n 0, 1) := by decide +kernel
theorem d_Mg_undo_25 : decode m_Mg_undo.2.1 25 = .ok (.getfield 30, 3) := by decide +kernel
theorem d_Mg_undo_28 : decode m_Mg_undo.2.1 28 = .ok (.aload_n 0, 1) := by decide +kernel
theorem d_Mg_undo_29 : decode m_Mg_undo.2.1 29 = .ok (.getfield 37, 3) := by decide +kernel
theorem d_Mg_undo_32 : decode m_Mg_undo.2.1 32 = .ok (.aload_n 0, 1) := by decide +kernel
theorem d_Mg_undo_33 : decode m_Mg_undo.2.1 33 = .ok (.getfield 383, 3) := by decide +kernel
theorem d_Mg_undo_36 : decode m_Mg_undo.2.1 36 = .ok (.aaload, 1) := by decide +kernel
theorem d_Mg_undo_37 : decode m_Mg_undo.2.1 37 = .ok (.invokevirtual 380, 3) := by decide +kernel
theorem d_Mg_undo_40 : decode m_Mg_undo.2.1 40 = .ok (.aload_n 0, 1) := by decide +kernel
theorem d_Mg_undo_41 : decode m_Mg_undo.2.1 41 = .ok (.getfield 30, 3) := by decide +kernel
theorem d_Mg_undo_44 : decode m_Mg_undo.2.1 44 = .ok (.getfield 181, 3) := by decide +kernel
theorem d_Mg_undo_47 : decode m_Mg_undo.2.1 47 = .ok (.aload_n 0, 1) := by decide +kernel
theorem d_Mg_undo_48 : decode m_Mg_undo.2.1 48 = .ok (.getfield 37, 3) := by decide +kernel
theorem d_Mg_undo_51 : decode m_Mg_undo.2.1 51 = .ok (.aload_n 0, 1) := by decide +kernel
theorem d_Mg_undo_52 : decode m_Mg_undo.2.1 52 = .ok (.getfield 383, 3) := by decide +kernel
theorem d_Mg_undo_55 : decode m_Mg_undo.2.1 55 = .ok (.aaload, 1) := by decide +kernel
theorem d_Mg_undo_56 : decode m_Mg_undo.2.1 56 = .ok (.getfield 181, 3) := by decide +kernel
theorem d_Mg_undo_59 : decode m_Mg_undo.2.1 59 = .ok (.invokevirtual 184, 3) := by decide +kernel
theorem d_Mg_undo_62 : decode m_Mg_undo.2.1 62 = .ok (.aload_n 0, 1) := by decide +kernel
theorem d_Mg_undo_63 : decode m_Mg_undo.2.1 63 = .ok (.aload_n 0, 1) := by decide +kernel
theorem d_Mg_undo_64 : decode m_Mg_undo.2.1 64 = .ok (.getfield 383, 3) := by decide +kernel
theorem d_Mg_undo_67 : decode m_Mg_undo.2.1 67 = .ok (.invokevirtual 174, 3) := by decide +kernel
theorem d_Mg_undo_70 : decode m_Mg_undo.2.1 70 = .ok (.ireturn, 1) := by decide +kernel
theorem d_Mg_undo_7 : decode m_Mg_undo.2.1 7 = .ok (.aload_n 0, 1) := by decide +kernel
theorem d_Mg_undo_8 : decode m_Mg_undo.2.1 8 = .ok (.bipush 6, 2) := by decide +kernel
theorem d_Mg_undo_10 : decode m_Mg_undo.2.1 10 = .ok (.invokevirtual 133, 3) := by decide +kernel
theorem d_Mg_undo_13 : decode m_Mg_undo.2.1 13 = .ok (.ireturn, 1) := by decide +kernel
