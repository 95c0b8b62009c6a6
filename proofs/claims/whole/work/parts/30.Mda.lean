abbrev m_Md_plain : aw_MI := (⟨"MaypoleGreenModel", "plain", "(I)V"⟩, prog_14_method_2_code, 3, none)
theorem k_Md_plain : aw_K m_Md_plain 1 := ⟨aw_in 1253 (by decide +kernel) rfl, aw_in 16 (by decide +kernel) rfl, ⟨by decide, by decide, by decide +kernel⟩, by decide, by decide +kernel⟩
theorem d_Md_plain_0 : decode m_Md_plain.2.1 0 = .ok (.iconst 0, 1) := by decide +kernel
theorem d_Md_plain_1 : decode m_Md_plain.2.1 1 = .ok (.istore_n 2, 1) := by decide +kernel
theorem d_Md_plain_2 : decode m_Md_plain.2.1 2 = .ok (.iload_n 2, 1) := by decide +kernel
theorem d_Md_plain_3 : decode m_Md_plain.2.1 3 = .ok (.sipush 552, 3) := by decide +kernel
theorem d_Md_plain_6 : decode m_Md_plain.2.1 6 = .ok (.if_icmp .ge 18, 3) := by decide +kernel
theorem d_Md_plain_24 : decode m_Md_plain.2.1 24 = .ok (.aload_n 0, 1) := by decide +kernel
theorem d_Md_plain_25 : decode m_Md_plain.2.1 25 = .ok (.getfield 7, 3) := by decide +kernel
theorem f_Md_7 : aw_F "MaypoleGreenModel" 7 11 0 true := ⟨cR11, cT11, 52, fun k => cY11.getD k .int, rfl, ci11, cy11, cn11, rfl, by decide, aw_in 1254 (by decide +kernel) rfl, rfl, rfl, rfl⟩
theorem d_Md_plain_28 : decode m_Md_plain.2.1 28 = .ok (.iload_n 1, 1) := by decide +kernel
theorem d_Md_plain_29 : decode m_Md_plain.2.1 29 = .ok (.iconst 1, 1) := by decide +kernel
theorem d_Md_plain_30 : decode m_Md_plain.2.1 30 = .ok (.iadd, 1) := by decide +kernel
theorem d_Md_plain_31 : decode m_Md_plain.2.1 31 = .ok (.iconst 2, 1) := by decide +kernel
theorem d_Md_plain_32 : decode m_Md_plain.2.1 32 = .ok (.iastore, 1) := by decide +kernel
theorem d_Md_plain_33 : decode m_Md_plain.2.1 33 = .ok (.aload_n 0, 1) := by decide +kernel
theorem d_Md_plain_34 : decode m_Md_plain.2.1 34 = .ok (.getfield 7, 3) := by decide +kernel
theorem d_Md_plain_37 : decode m_Md_plain.2.1 37 = .ok (.iload_n 1, 1) := by decide +kernel
theorem d_Md_plain_38 : decode m_Md_plain.2.1 38 = .ok (.iconst 2, 1) := by decide +kernel
theorem d_Md_plain_39 : decode m_Md_plain.2.1 39 = .ok (.iadd, 1) := by decide +kernel
theorem d_Md_plain_40 : decode m_Md_plain.2.1 40 = .ok (.bipush 12, 2) := by decide +kernel
theorem d_Md_plain_42 : decode m_Md_plain.2.1 42 = .ok (.iastore, 1) := by decide +kernel
theorem d_Md_plain_43 : decode m_Md_plain.2.1 43 = .ok (.aload_n 0, 1) := by decide +kernel
theorem d_Md_plain_44 : decode m_Md_plain.2.1 44 = .ok (.getfield 7, 3) := by decide +kernel
theorem d_Md_plain_47 : decode m_Md_plain.2.1 47 = .ok (.iload_n 1, 1) := by decide +kernel
theorem d_Md_plain_48 : decode m_Md_plain.2.1 48 = .ok (.iconst 5, 1) := by decide +kernel
theorem d_Md_plain_49 : decode m_Md_plain.2.1 49 = .ok (.iadd, 1) := by decide +kernel
theorem d_Md_plain_50 : decode m_Md_plain.2.1 50 = .ok (.iconst (-1), 1) := by decide +kernel
theorem d_Md_plain_51 : decode m_Md_plain.2.1 51 = .ok (.iastore, 1) := by decide +kernel
theorem d_Md_plain_52 : decode m_Md_plain.2.1 52 = .ok (.return_, 1) := by decide +kernel
theorem d_Md_plain_9 : decode m_Md_plain.2.1 9 = .ok (.aload_n 0, 1) := by decide +kernel
theorem d_Md_plain_10 : decode m_Md_plain.2.1 10 = .ok (.getfield 7, 3) := by decide +kernel
theorem d_Md_plain_13 : decode m_Md_plain.2.1 13 = .ok (.iload_n 1, 1) := by decide +kernel
theorem d_Md_plain_14 : decode m_Md_plain.2.1 14 = .ok (.iload_n 2, 1) := by decide +kernel
theorem d_Md_plain_15 : decode m_Md_plain.2.1 15 = .ok (.iadd, 1) := by decide +kernel
theorem d_Md_plain_16 : decode m_Md_plain.2.1 16 = .ok (.iconst 0, 1) := by decide +kernel
theorem d_Md_plain_17 : decode m_Md_plain.2.1 17 = .ok (.iastore, 1) := by decide +kernel
theorem d_Md_plain_18 : decode m_Md_plain.2.1 18 = .ok (.iinc 2 1, 3) := by decide +kernel
theorem d_Md_plain_21 : decode m_Md_plain.2.1 21 = .ok (.goto (-19), 3) := by decide +kernel
abbrev m_Md_status : aw_MI := (⟨"MaypoleGreenModel", "status", "()I"⟩, prog_14_method_3_code, 1, some .int)
theorem k_Md_status : aw_K m_Md_status 0 := ⟨aw_in 1415 (by decide +kernel) rfl, aw_in 16 (by decide +kernel) rfl, ⟨by decide, by decide, by decide +kernel⟩, by decide, by decide +kernel⟩
theorem d_Md_status_0 : decode m_Md_status.2.1 0 = .ok (.aload_n 0, 1) := by decide +kernel
theorem d_Md_status_1 : decode m_Md_status.2.1 1 = .ok (.getfield 112, 3) := by decide +kernel
theorem f_Md_112 : aw_F "MaypoleGreenModel" 112 11 2 false := ⟨cR11, cT11, 52, fun k => cY11.getD k .int, rfl, ci11, cy11, cn11, rfl, by decide, aw_in 1256 (by decide +kernel) rfl, rfl, rfl, rfl⟩
theorem d_Md_status_4 : decode m_Md_status.2.1 4 = .ok (.ireturn, 1) := by decide +kernel
abbrev m_Md_top : aw_MI := (⟨"MaypoleGreenModel", "top", "()J"⟩, prog_14_method_4_code, 1, some .long)
theorem k_Md_top : aw_K m_Md_top 0 := ⟨aw_in 1419 (by decide +kernel) rfl, aw_in 16 (by decide +kernel) rfl, ⟨by decide, by decide, by decide +kernel⟩, by decide, by decide +kernel⟩
theorem d_Md_top_0 : decode m_Md_top.2.1 0 = .ok (.aload_n 0, 1) := by decide +kernel
theorem d_Md_top_1 : decode m_Md_top.2.1 1 = .ok (.getfield 115, 3) := by decide +kernel
theorem f_Md_115 : aw_F "MaypoleGreenModel" 115 11 3 false := ⟨cR11, cT11, 52, fun k => cY11.getD k .int, rfl, ci11, cy11, cn11, rfl, by decide, aw_in 1257 (by decide +kernel) rfl, rfl, rfl, rfl⟩
theorem d_Md_top_4 : decode m_Md_top.2.1 4 = .ok (.lreturn, 1) := by decide +kernel
abbrev m_Md_bottom : aw_MI := (⟨"MaypoleGreenModel", "bottom", "()J"⟩, prog_14_method_5_code, 1, some .long)
theorem k_Md_bottom : aw_K m_Md_bottom 0 := ⟨aw_in 1423 (by decide +kernel) rfl, aw_in 16 (by decide +kernel) rfl, ⟨by decide, by decide, by decide +kernel⟩, by decide, by decide +kernel⟩
theorem d_Md_bottom_0 : decode m_Md_bottom.2.1 0 = .ok (.aload_n 0, 1) := by decide +kernel
theorem d_Md_bottom_1 : decode m_Md_bottom.2.1 1 = .ok (.getfield 17, 3) := by decide +kernel
theorem f_Md_17 : aw_F "MaypoleGreenModel" 17 11 4 false := ⟨cR11, cT11, 52, fun k => cY11.getD k .int, rfl, ci11, cy11, cn11, rfl, by decide, aw_in 1258 (by decide +kernel) rfl, rfl, rfl, rfl⟩
theorem d_Md_bottom_4 : decode m_Md_bottom.2.1 4 = .ok (.lreturn, 1) := by decide +kernel
abbrev m_Md_tray : aw_MI := (⟨"MaypoleGreenModel", "tray", "(III)Z"⟩, prog_14_method_13_code, 5, some .boolean)
theorem k_Md_tray : aw_K m_Md_tray 3 := ⟨aw_in 1427 (by decide +kernel) rfl, aw_in 16 (by decide +kernel) rfl, ⟨by decide, by decide, by decide +kernel⟩, by decide, by decide +kernel⟩
theorem d_Md_tray_0 : decode m_Md_tray.2.1 0 = .ok (.iload_n 1, 1) := by decide +kernel
theorem d_Md_tray_1 : decode m_Md_tray.2.1 1 = .ok (.invokestatic 129, 3) := by decide +kernel
abbrev m_Md_isTray : aw_MI := (⟨"MaypoleGreenModel", "isTray", "(I)Z"⟩, prog_14_method_11_code, 1, some .boolean)
theorem lk_Md_129 : Cond.methodLink "MaypoleGreenModel" 129 m_Md_isTray.1 ∈ aw_T := aw_in 1428 (by decide +kernel) rfl
theorem k_Md_isTray : aw_K m_Md_isTray 1 := ⟨aw_in 1430 (by decide +kernel) rfl, aw_in 16 (by decide +kernel) rfl, ⟨by decide, by decide, by decide +kernel⟩, by decide, by decide +kernel⟩
theorem st_Md_isTray : Cond.static m_Md_isTray.1 ∈ aw_T := aw_in 1429 (by decide +kernel) rfl
theorem d_Md_tray_4 : decode m_Md_tray.2.1 4 = .ok (.ifCond .eq 22, 3) := by decide +kernel
theorem d_Md_tray_26 : decode m_Md_tray.2.1 26 = .ok (.aload_n 0, 1) := by decide +kernel
theorem d_Md_tray_27 : decode m_Md_tray.2.1 27 = .ok (.iconst 1, 1) := by decide +kernel
theorem d_Md_tray_28 : decode m_Md_tray.2.1 28 = .ok (.invokevirtual 125, 3) := by decide +kernel
abbrev m_Md_is : aw_MI := (⟨"MaypoleGreenModel", "is", "(I)Z"⟩, prog_14_method_6_code, 2, some .boolean)
theorem lk_Md_125 : Cond.methodLink "MaypoleGreenModel" 125 m_Md_is.1 ∈ aw_T := aw_in 1431 (by decide +kernel) rfl
theorem k_Md_is : aw_K m_Md_is 1 := ⟨aw_in 1434 (by decide +kernel) rfl, aw_in 16 (by decide +kernel) rfl, ⟨by decide, by decide, by decide +kernel⟩, by decide, by decide +kernel⟩
theorem in_Md_is : Cond.instanceMethod m_Md_is.1 ∈ aw_T := aw_in 1433 (by decide +kernel) rfl
theorem se_Md_is : Cond.selects m_Md_is.1.cls m_Md_is.1 m_Md_is.1 ∈ aw_T := aw_inP 56 (by decide +kernel) rfl
theorem d_Md_tray_31 : decode m_Md_tray.2.1 31 = .ok (.ireturn, 1) := by decide +kernel
theorem d_Md_tray_7 : decode m_Md_tray.2.1 7 = .ok (.iload_n 2, 1) := by decide +kernel
theorem d_Md_tray_8 : decode m_Md_tray.2.1 8 = .ok (.ifCond .lt 18, 3) := by decide +kernel
theorem d_Md_tray_11 : decode m_Md_tray.2.1 11 = .ok (.iload_n 2, 1) := by decide +kernel
theorem d_Md_tray_12 : decode m_Md_tray.2.1 12 = .ok (.iconst 3, 1) := by decide +kernel
theorem d_Md_tray_13 : decode m_Md_tray.2.1 13 = .ok (.if_icmp .gt 13, 3) := by decide +kernel
theorem d_Md_tray_16 : decode m_Md_tray.2.1 16 = .ok (.iload_n 3, 1) := by decide +kernel
theorem d_Md_tray_17 : decode m_Md_tray.2.1 17 = .ok (.ifCond .lt 9, 3) := by decide +kernel
theorem d_Md_tray_20 : decode m_Md_tray.2.1 20 = .ok (.iload_n 3, 1) := by decide +kernel
theorem d_Md_tray_21 : decode m_Md_tray.2.1 21 = .ok (.bipush 60, 2) := by decide +kernel
theorem d_Md_tray_23 : decode m_Md_tray.2.1 23 = .ok (.if_icmp .le 9, 3) := by decide +kernel
theorem d_Md_tray_32 : decode m_Md_tray.2.1 32 = .ok (.aload_n 0, 1) := by decide +kernel
theorem d_Md_tray_33 : decode m_Md_tray.2.1 33 = .ok (.getfield 21, 3) := by decide +kernel
theorem f_Md_21 : aw_F "MaypoleGreenModel" 21 11 5 true := ⟨cR11, cT11, 52, fun k => cY11.getD k .int, rfl, ci11, cy11, cn11, rfl, by decide, aw_in 1259 (by decide +kernel) rfl, rfl, rfl, rfl⟩
theorem d_Md_tray_36 : decode m_Md_tray.2.1 36 = .ok (.iload_n 1, 1) := by decide +kernel
theorem d_Md_tray_37 : decode m_Md_tray.2.1 37 = .ok (.iload_n 2, 1) := by decide +kernel
theorem d_Md_tray_38 : decode m_Md_tray.2.1 38 = .ok (.iastore, 1) := by decide +kernel
theorem d_Md_tray_39 : decode m_Md_tray.2.1 39 = .ok (.aload_n 0, 1) := by decide +kernel
theorem d_Md_tray_40 : decode m_Md_tray.2.1 40 = .ok (.getfield 24, 3) := by decide +kernel
theorem f_Md_24 : aw_F "MaypoleGreenModel" 24 11 6 true := ⟨cR11, cT11, 52, fun k => cY11.getD k .int, rfl, ci11, cy11, cn11, rfl, by decide, aw_in 1260 (by decide +kernel) rfl, rfl, rfl, rfl⟩
theorem d_Md_tray_43 : decode m_Md_tray.2.1 43 = .ok (.iload_n 1, 1) := by decide +kernel
theorem d_Md_tray_44 : decode m_Md_tray.2.1 44 = .ok (.iload_n 3, 1) := by decide +kernel
theorem d_Md_tray_45 : decode m_Md_tray.2.1 45 = .ok (.iastore, 1) := by decide +kernel
theorem d_Md_tray_46 : decode m_Md_tray.2.1 46 = .ok (.iconst 0, 1) := by decide +kernel
theorem d_Md_tray_47 : decode m_Md_tray.2.1 47 = .ok (.istore 4, 2) := by decide +kernel
theorem d_Md_tray_49 : decode m_Md_tray.2.1 49 = .ok (.iload 4, 2) := by decide +kernel
theorem d_Md_tray_51 : decode m_Md_tray.2.1 51 = .ok (.iload_n 3, 1) := by decide +kernel
theorem d_Md_tray_52 : decode m_Md_tray.2.1 52 = .ok (.if_icmp .ge 22, 3) := by decide +kernel
theorem d_Md_tray_74 : decode m_Md_tray.2.1 74 = .ok (.aload_n 0, 1) := by decide +kernel
theorem d_Md_tray_75 : decode m_Md_tray.2.1 75 = .ok (.iconst 0, 1) := by decide +kernel
theorem d_Md_tray_76 : decode m_Md_tray.2.1 76 = .ok (.invokevirtual 125, 3) := by decide +kernel
theorem d_Md_tray_79 : decode m_Md_tray.2.1 79 = .ok (.ireturn, 1) := by decide +kernel
theorem d_Md_tray_55 : decode m_Md_tray.2.1 55 = .ok (.aload_n 0, 1) := by decide +kernel
theorem d_Md_tray_56 : decode m_Md_tray.2.1 56 = .ok (.getfield 27, 3) := by decide +kernel
theorem f_Md_27 : aw_F "MaypoleGreenModel" 27 11 7 true := ⟨cR11, cT11, 52, fun k => cY11.getD k .int, rfl, ci11, cy11, cn11, rfl, by decide, aw_in 1261 (by decide +kernel) rfl, rfl, rfl, rfl⟩
theorem d_Md_tray_59 : decode m_Md_tray.2.1 59 = .ok (.bipush 60, 2) := by decide +kernel
theorem d_Md_tray_61 : decode m_Md_tray.2.1 61 = .ok (.iload_n 1, 1) := by decide +kernel
theorem d_Md_tray_62 : decode m_Md_tray.2.1 62 = .ok (.imul, 1) := by decide +kernel
theorem d_Md_tray_63 : decode m_Md_tray.2.1 63 = .ok (.iload 4, 2) := by decide +kernel
theorem d_Md_tray_65 : decode m_Md_tray.2.1 65 = .ok (.iadd, 1) := by decide +kernel
theorem d_Md_tray_66 : decode m_Md_tray.2.1 66 = .ok (.lconst 0, 1) := by decide +kernel
theorem d_Md_tray_67 : decode m_Md_tray.2.1 67 = .ok (.lastore, 1) := by decide +kernel
theorem d_Md_tray_68 : decode m_Md_tray.2.1 68 = .ok (.iinc 4 1, 3) := by decide +kernel
theorem d_Md_tray_71 : decode m_Md_tray.2.1 71 = .ok (.goto (-22), 3) := by decide +kernel
theorem d_Md_isTray_0 : decode m_Md_isTray.2.1 0 = .ok (.iload_n 0, 1) := by decide +kernel
theorem d_Md_isTray_1 : decode m_Md_isTray.2.1 1 = .ok (.ifCond .lt 12, 3) := by decide +kernel
theorem d_Md_isTray_13 : decode m_Md_isTray.2.1 13 = .ok (.iconst 0, 1) := by decide +kernel
theorem d_Md_isTray_14 : decode m_Md_isTray.2.1 14 = .ok (.ireturn, 1) := by decide +kernel
theorem d_Md_isTray_4 : decode m_Md_isTray.2.1 4 = .ok (.iload_n 0, 1) := by decide +kernel
theorem d_Md_isTray_5 : decode m_Md_isTray.2.1 5 = .ok (.iconst 4, 1) := by decide +kernel
theorem d_Md_isTray_6 : decode m_Md_isTray.2.1 6 = .ok (.if_icmp .ge 7, 3) := by decide +kernel
theorem d_Md_isTray_9 : decode m_Md_isTray.2.1 9 = .ok (.iconst 1, 1) := by decide +kernel
theorem d_Md_isTray_10 : decode m_Md_isTray.2.1 10 = .ok (.goto 4, 3) := by decide +kernel
theorem d_Md_is_0 : decode m_Md_is.2.1 0 = .ok (.aload_n 0, 1) := by decide +kernel
theorem d_Md_is_1 : decode m_Md_is.2.1 1 = .ok (.iload_n 1, 1) := by decide +kernel
theorem d_Md_is_2 : decode m_Md_is.2.1 2 = .ok (.putfield 112, 3) := by decide +kernel
theorem d_Md_is_5 : decode m_Md_is.2.1 5 = .ok (.iload_n 1, 1) := by decide +kernel
theorem d_Md_is_6 : decode m_Md_is.2.1 6 = .ok (.ifCond .ne 7, 3) := by decide +kernel
theorem d_Md_is_13 : decode m_Md_is.2.1 13 = .ok (.iconst 0, 1) := by decide +kernel
theorem d_Md_is_14 : decode m_Md_is.2.1 14 = .ok (.ireturn, 1) := by decide +kernel
theorem d_Md_is_9 : decode m_Md_is.2.1 9 = .ok (.iconst 1, 1) := by decide +kernel
theorem d_Md_is_10 : decode m_Md_is.2.1 10 = .ok (.goto 4, 3) := by decide +kernel
abbrev m_Md_write : aw_MI := (⟨"MaypoleGreenModel", "write", "(IIJ)Z"⟩, prog_14_method_15_code, 6, some .boolean)
theorem k_Md_write : aw_K m_Md_write 3 := ⟨aw_in 1438 (by decide +kernel) rfl, aw_in 16 (by decide +kernel) rfl, ⟨by decide, by decide, by decide +kernel⟩, by decide, by decide +kernel⟩
theorem d_Md_write_0 : decode m_Md_write.2.1 0 = .ok (.aload_n 0, 1) := by decide +kernel
theorem d_Md_write_1 : decode m_Md_write.2.1 1 = .ok (.iload_n 1, 1) := by decide +kernel
theorem d_Md_write_2 : decode m_Md_write.2.1 2 = .ok (.iload_n 2, 1) := by decide +kernel
theorem d_Md_write_3 : decode m_Md_write.2.1 3 = .ok (.invokevirtual 132, 3) := by decide +kernel
abbrev m_Md_wrongPlace : aw_MI := (⟨"MaypoleGreenModel", "wrongPlace", "(II)I"⟩, prog_14_method_14_code, 3, some .int)
theorem lk_Md_132 : Cond.methodLink "MaypoleGreenModel" 132 m_Md_wrongPlace.1 ∈ aw_T := aw_in 1439 (by decide +kernel) rfl
theorem k_Md_wrongPlace : aw_K m_Md_wrongPlace 2 := ⟨aw_in 1442 (by decide +kernel) rfl, aw_in 16 (by decide +kernel) rfl, ⟨by decide, by decide, by decide +kernel⟩, by decide, by decide +kernel⟩
theorem in_Md_wrongPlace : Cond.instanceMethod m_Md_wrongPlace.1 ∈ aw_T := aw_in 1441 (by decide +kernel) rfl
theorem se_Md_wrongPlace : Cond.selects m_Md_wrongPlace.1.cls m_Md_wrongPlace.1 m_Md_wrongPlace.1 ∈ aw_T := aw_inP 57 (by decide +kernel) rfl
theorem d_Md_write_6 : decode m_Md_write.2.1 6 = .ok (.istore 5, 2) := by decide +kernel
theorem d_Md_write_8 : decode m_Md_write.2.1 8 = .ok (.iload 5, 2) := by decide +kernel
theorem d_Md_write_10 : decode m_Md_write.2.1 10 = .ok (.ifCond .ne 24, 3) := by decide +kernel
theorem d_Md_write_34 : decode m_Md_write.2.1 34 = .ok (.aload_n 0, 1) := by decide +kernel
theorem d_Md_write_35 : decode m_Md_write.2.1 35 = .ok (.iload 5, 2) := by decide +kernel
theorem d_Md_write_37 : decode m_Md_write.2.1 37 = .ok (.invokevirtual 125, 3) := by decide +kernel
theorem d_Md_write_40 : decode m_Md_write.2.1 40 = .ok (.ireturn, 1) := by decide +kernel
theorem d_Md_write_13 : decode m_Md_write.2.1 13 = .ok (.aload_n 0, 1) := by decide +kernel
theorem d_Md_write_14 : decode m_Md_write.2.1 14 = .ok (.getfield 27, 3) := by decide +kernel
theorem d_Md_write_17 : decode m_Md_write.2.1 17 = .ok (.bipush 60, 2) := by decide +kernel
theorem d_Md_write_19 : decode m_Md_write.2.1 19 = .ok (.iload_n 1, 1) := by decide +kernel
theorem d_Md_write_20 : decode m_Md_write.2.1 20 = .ok (.imul, 1) := by decide +kernel
theorem d_Md_write_21 : decode m_Md_write.2.1 21 = .ok (.iload_n 2, 1) := by decide +kernel
theorem d_Md_write_22 : decode m_Md_write.2.1 22 = .ok (.iadd, 1) := by decide +kernel
theorem d_Md_write_23 : decode m_Md_write.2.1 23 = .ok (.lload_n 3, 1) := by decide +kernel
theorem d_Md_write_24 : decode m_Md_write.2.1 24 = .ok (.aload_n 0, 1) := by decide +kernel
theorem d_Md_write_25 : decode m_Md_write.2.1 25 = .ok (.getfield 21, 3) := by decide +kernel
theorem d_Md_write_28 : decode m_Md_write.2.1 28 = .ok (.iload_n 1, 1) := by decide +kernel
theorem d_Md_write_29 : decode m_Md_write.2.1 29 = .ok (.iaload, 1) := by decide +kernel
theorem d_Md_write_30 : decode m_Md_write.2.1 30 = .ok (.invokestatic 136, 3) := by decide +kernel
abbrev m_Md_cut : aw_MI := (⟨"MaypoleGreenModel", "cut", "(JI)J"⟩, prog_14_method_12_code, 3, some .long)
theorem lk_Md_136 : Cond.methodLink "MaypoleGreenModel" 136 m_Md_cut.1 ∈ aw_T := aw_in 1443 (by decide +kernel) rfl
theorem k_Md_cut : aw_K m_Md_cut 2 := ⟨aw_in 1445 (by decide +kernel) rfl, aw_in 16 (by decide +kernel) rfl, ⟨by decide, by decide, by decide +kernel⟩, by decide, by decide +kernel⟩
theorem st_Md_cut : Cond.static m_Md_cut.1 ∈ aw_T := aw_in 1444 (by decide +kernel) rfl
theorem d_Md_write_33 : decode m_Md_write.2.1 33 = .ok (.lastore, 1) := by decide +kernel
theorem d_Md_wrongPlace_0 : decode m_Md_wrongPlace.2.1 0 = .ok (.iload_n 1, 1) := by decide +kernel
theorem d_Md_wrongPlace_1 : decode m_Md_wrongPlace.2.1 1 = .ok (.invokestatic 129, 3) := by decide +kernel
theorem d_Md_wrongPlace_4 : decode m_Md_wrongPlace.2.1 4 = .ok (.ifCond .ne 7, 3) := by decide +kernel
theorem d_Md_wrongPlace_11 : decode m_Md_wrongPlace.2.1 11 = .ok (.aload_n 0, 1) := by decide +kernel
theorem d_Md_wrongPlace_12 : decode m_Md_wrongPlace.2.1 12 = .ok (.getfield 24, 3) := by decide +kernel
theorem d_Md_wrongPlace_15 : decode m_Md_wrongPlace.2.1 15 = .ok (.iload_n 1, 1) := by decide +kernel
theorem d_Md_wrongPlace_16 : decode m_Md_wrongPlace.2.1 16 = .ok (.iaload, 1) := by decide +kernel
theorem d_Md_wrongPlace_17 : decode m_Md_wrongPlace.2.1 17 = .ok (.iconst (-1), 1) := by decide +kernel
theorem d_Md_wrongPlace_18 : decode m_Md_wrongPlace.2.1 18 = .ok (.if_icmp .ne 7, 3) := by decide +kernel
theorem d_Md_wrongPlace_25 : decode m_Md_wrongPlace.2.1 25 = .ok (.iload_n 2, 1) := by decide +kernel
theorem d_Md_wrongPlace_26 : decode m_Md_wrongPlace.2.1 26 = .ok (.ifCond .lt 13, 3) := by decide +kernel
theorem d_Md_wrongPlace_39 : decode m_Md_wrongPlace.2.1 39 = .ok (.iconst 3, 1) := by decide +kernel
theorem d_Md_wrongPlace_40 : decode m_Md_wrongPlace.2.1 40 = .ok (.goto 4, 3) := by decide +kernel
theorem d_Md_wrongPlace_44 : decode m_Md_wrongPlace.2.1 44 = .ok (.ireturn, 1) := by decide +kernel
theorem d_Md_wrongPlace_29 : decode m_Md_wrongPlace.2.1 29 = .ok (.iload_n 2, 1) := by decide +kernel
theorem d_Md_wrongPlace_30 : decode m_Md_wrongPlace.2.1 30 = .ok (.aload_n 0, 1) := by decide +kernel
theorem d_Md_wrongPlace_31 : decode m_Md_wrongPlace.2.1 31 = .ok (.getfield 24, 3) := by decide +kernel
theorem d_Md_wrongPlace_34 : decode m_Md_wrongPlace.2.1 34 = .ok (.iload_n 1, 1) := by decide +kernel
theorem d_Md_wrongPlace_35 : decode m_Md_wrongPlace.2.1 35 = .ok (.iaload, 1) := by decide +kernel
theorem d_Md_wrongPlace_36 : decode m_Md_wrongPlace.2.1 36 = .ok (.if_icmp .lt 7, 3) := by decide +kernel
theorem d_Md_wrongPlace_43 : decode m_Md_wrongPlace.2.1 43 = .ok (.iconst 0, 1) := by decide +kernel
theorem d_Md_wrongPlace_21 : decode m_Md_wrongPlace.2.1 21 = .ok (.iconst 2, 1) := by decide +kernel
theorem d_Md_wrongPlace_22 : decode m_Md_wrongPlace.2.1 22 = .ok (.goto 22, 3) := by decide +kernel
theorem d_Md_wrongPlace_7 : decode m_Md_wrongPlace.2.1 7 = .ok (.iconst 1, 1) := by decide +kernel
theorem d_Md_wrongPlace_8 : decode m_Md_wrongPlace.2.1 8 = .ok (.goto 36, 3) := by decide +kernel
theorem d_Md_cut_0 : decode m_Md_cut.2.1 0 = .ok (.iload_n 2, 1) := by decide +kernel
theorem d_Md_cut_1 : decode m_Md_cut.2.1 1 = .ok (.ifCond .ne 10, 3) := by decide +kernel
theorem d_Md_cut_11 : decode m_Md_cut.2.1 11 = .ok (.iload_n 2, 1) := by decide +kernel
theorem d_Md_cut_12 : decode m_Md_cut.2.1 12 = .ok (.iconst 1, 1) := by decide +kernel
theorem d_Md_cut_13 : decode m_Md_cut.2.1 13 = .ok (.if_icmp .ne 10, 3) := by decide +kernel
theorem d_Md_cut_23 : decode m_Md_cut.2.1 23 = .ok (.iload_n 2, 1) := by decide +kernel
theorem d_Md_cut_24 : decode m_Md_cut.2.1 24 = .ok (.iconst 2, 1) := by decide +kernel
theorem d_Md_cut_25 : decode m_Md_cut.2.1 25 = .ok (.if_icmp .ne 9, 3) := by decide +kernel
theorem d_Md_cut_34 : decode m_Md_cut.2.1 34 = .ok (.lload_n 0, 1) := by decide +kernel
theorem d_Md_cut_35 : decode m_Md_cut.2.1 35 = .ok (.lreturn, 1) := by decide +kernel
theorem d_Md_cut_28 : decode m_Md_cut.2.1 28 = .ok (.lload_n 0, 1) := by decide +kernel
theorem d_Md_cut_29 : decode m_Md_cut.2.1 29 = .ok (.l2i, 1) := by decide +kernel
theorem d_Md_cut_30 : decode m_Md_cut.2.1 30 = .ok (.i2l, 1) := by decide +kernel
theorem d_Md_cut_31 : decode m_Md_cut.2.1 31 = .ok (.goto 4, 3) := by decide +kernel
theorem d_Md_cut_16 : decode m_Md_cut.2.1 16 = .ok (.lload_n 0, 1) := by decide +kernel
theorem d_Md_cut_17 : decode m_Md_cut.2.1 17 = .ok (.l2i, 1) := by decide +kernel
theorem d_Md_cut_18 : decode m_Md_cut.2.1 18 = .ok (.i2s, 1) := by decide +kernel
theorem d_Md_cut_19 : decode m_Md_cut.2.1 19 = .ok (.i2l, 1) := by decide +kernel
theorem d_Md_cut_20 : decode m_Md_cut.2.1 20 = .ok (.goto 15, 3) := by decide +kernel
theorem d_Md_cut_4 : decode m_Md_cut.2.1 4 = .ok (.lload_n 0, 1) := by decide +kernel
theorem d_Md_cut_5 : decode m_Md_cut.2.1 5 = .ok (.l2i, 1) := by decide +kernel
theorem d_Md_cut_6 : decode m_Md_cut.2.1 6 = .ok (.i2b, 1) := by decide +kernel
theorem d_Md_cut_7 : decode m_Md_cut.2.1 7 = .ok (.i2l, 1) := by decide +kernel
theorem d_Md_cut_8 : decode m_Md_cut.2.1 8 = .ok (.goto 27, 3) := by decide +kernel
abbrev m_Md_read : aw_MI := (⟨"MaypoleGreenModel", "read", "(II)J"⟩, prog_14_method_16_code, 3, some .long)
theorem k_Md_read : aw_K m_Md_read 2 := ⟨aw_in 1449 (by decide +kernel) rfl, aw_in 16 (by decide +kernel) rfl, ⟨by decide, by decide, by decide +kernel⟩, by decide, by decide +kernel⟩
theorem d_Md_read_0 : decode m_Md_read.2.1 0 = .ok (.aload_n 0, 1) := by decide +kernel
theorem d_Md_read_1 : decode m_Md_read.2.1 1 = .ok (.aload_n 0, 1) := by decide +kernel
theorem d_Md_read_2 : decode m_Md_read.2.1 2 = .ok (.iload_n 1, 1) := by decide +kernel
theorem d_Md_read_3 : decode m_Md_read.2.1 3 = .ok (.iload_n 2, 1) := by decide +kernel
theorem d_Md_read_4 : decode m_Md_read.2.1 4 = .ok (.invokevirtual 132, 3) := by decide +kernel
theorem d_Md_read_7 : decode m_Md_read.2.1 7 = .ok (.putfield 112, 3) := by decide +kernel
theorem d_Md_read_10 : decode m_Md_read.2.1 10 = .ok (.aload_n 0, 1) := by decide +kernel
theorem d_Md_read_11 : decode m_Md_read.2.1 11 = .ok (.getfield 112, 3) := by decide +kernel
theorem d_Md_read_14 : decode m_Md_read.2.1 14 = .ok (.ifCond .le 9, 3) := by decide +kernel
theorem d_Md_read_23 : decode m_Md_read.2.1 23 = .ok (.aload_n 0, 1) := by decide +kernel
theorem d_Md_read_24 : decode m_Md_read.2.1 24 = .ok (.getfield 27, 3) := by decide +kernel
theorem d_Md_read_27 : decode m_Md_read.2.1 27 = .ok (.bipush 60, 2) := by decide +kernel
theorem d_Md_read_29 : decode m_Md_read.2.1 29 = .ok (.iload_n 1, 1) := by decide +kernel
theorem d_Md_read_30 : decode m_Md_read.2.1 30 = .ok (.imul, 1) := by decide +kernel
theorem d_Md_read_31 : decode m_Md_read.2.1 31 = .ok (.iload_n 2, 1) := by decide +kernel
theorem d_Md_read_32 : decode m_Md_read.2.1 32 = .ok (.iadd, 1) := by decide +kernel
theorem d_Md_read_33 : decode m_Md_read.2.1 33 = .ok (.laload, 1) := by decide +kernel
theorem d_Md_read_34 : decode m_Md_read.2.1 34 = .ok (.lreturn, 1) := by decide +kernel
theorem d_Md_read_17 : decode m_Md_read.2.1 17 = .ok (.ldc2_w 140, 3) := by decide +kernel
theorem cl_Md_140 : Cond.constantLong "MaypoleGreenModel" 140 (-1) ∈ aw_T := aw_in 1450 (by decide +kernel) rfl
theorem d_Md_read_20 : decode m_Md_read.2.1 20 = .ok (.goto 14, 3) := by decide +kernel
abbrev m_Md_pour : aw_MI := (⟨"MaypoleGreenModel", "pour", "(IIIII)Z"⟩, prog_14_method_17_code, 8, some .boolean)
theorem k_Md_pour : aw_K m_Md_pour 5 := ⟨aw_in 1454 (by decide +kernel) rfl, aw_in 16 (by decide +kernel) rfl, ⟨by decide, by decide, by decide +kernel⟩, by decide, by decide +kernel⟩
theorem d_Md_pour_0 : decode m_Md_pour.2.1 0 = .ok (.iload_n 1, 1) := by decide +kernel
theorem d_Md_pour_1 : decode m_Md_pour.2.1 1 = .ok (.invokestatic 129, 3) := by decide +kernel
theorem d_Md_pour_4 : decode m_Md_pour.2.1 4 = .ok (.ifCond .eq 24, 3) := by decide +kernel
theorem d_Md_pour_28 : decode m_Md_pour.2.1 28 = .ok (.aload_n 0, 1) := by decide +kernel
theorem d_Md_pour_29 : decode m_Md_pour.2.1 29 = .ok (.iconst 1, 1) := by decide +kernel
theorem d_Md_pour_30 : decode m_Md_pour.2.1 30 = .ok (.invokevirtual 125, 3) := by decide +kernel
theorem d_Md_pour_33 : decode m_Md_pour.2.1 33 = .ok (.ireturn, 1) := by decide +kernel
theorem d_Md_pour_7 : decode m_Md_pour.2.1 7 = .ok (.iload_n 3, 1) := by decide +kernel
theorem d_Md_pour_8 : decode m_Md_pour.2.1 8 = .ok (.invokestatic 129, 3) := by decide +kernel
theorem d_Md_pour_11 : decode m_Md_pour.2.1 11 = .ok (.ifCond .eq 17, 3) := by decide +kernel
theorem d_Md_pour_14 : decode m_Md_pour.2.1 14 = .ok (.iload_n 2, 1) := by decide +kernel
theorem d_Md_pour_15 : decode m_Md_pour.2.1 15 = .ok (.ifCond .lt 13, 3) := by decide +kernel
theorem d_Md_pour_18 : decode m_Md_pour.2.1 18 = .ok (.iload 4, 2) := by decide +kernel
theorem d_Md_pour_20 : decode m_Md_pour.2.1 20 = .ok (.ifCond .lt 8, 3) := by decide +kernel
theorem d_Md_pour_23 : decode m_Md_pour.2.1 23 = .ok (.iload 5, 2) := by decide +kernel
theorem d_Md_pour_25 : decode m_Md_pour.2.1 25 = .ok (.ifCond .ge 9, 3) := by decide +kernel
theorem d_Md_pour_34 : decode m_Md_pour.2.1 34 = .ok (.aload_n 0, 1) := by decide +kernel
theorem d_Md_pour_35 : decode m_Md_pour.2.1 35 = .ok (.getfield 24, 3) := by decide +kernel
theorem d_Md_pour_38 : decode m_Md_pour.2.1 38 = .ok (.iload_n 1, 1) := by decide +kernel
theorem d_Md_pour_39 : decode m_Md_pour.2.1 39 = .ok (.iaload, 1) := by decide +kernel
theorem d_Md_pour_40 : decode m_Md_pour.2.1 40 = .ok (.iconst (-1), 1) := by decide +kernel
theorem d_Md_pour_41 : decode m_Md_pour.2.1 41 = .ok (.if_icmp .eq 13, 3) := by decide +kernel
theorem d_Md_pour_54 : decode m_Md_pour.2.1 54 = .ok (.aload_n 0, 1) := by decide +kernel
theorem d_Md_pour_55 : decode m_Md_pour.2.1 55 = .ok (.iconst 2, 1) := by decide +kernel
theorem d_Md_pour_56 : decode m_Md_pour.2.1 56 = .ok (.invokevirtual 125, 3) := by decide +kernel
theorem d_Md_pour_59 : decode m_Md_pour.2.1 59 = .ok (.ireturn, 1) := by decide +kernel
theorem d_Md_pour_44 : decode m_Md_pour.2.1 44 = .ok (.aload_n 0, 1) := by decide +kernel
theorem d_Md_pour_45 : decode m_Md_pour.2.1 45 = .ok (.getfield 24, 3) := by decide +kernel
theorem d_Md_pour_48 : decode m_Md_pour.2.1 48 = .ok (.iload_n 3, 1) := by decide +kernel
theorem d_Md_pour_49 : decode m_Md_pour.2.1 49 = .ok (.iaload, 1) := by decide +kernel
theorem d_Md_pour_50 : decode m_Md_pour.2.1 50 = .ok (.iconst (-1), 1) := by decide +kernel
theorem d_Md_pour_51 : decode m_Md_pour.2.1 51 = .ok (.if_icmp .ne 9, 3) := by decide +kernel
theorem d_Md_pour_60 : decode m_Md_pour.2.1 60 = .ok (.aload_n 0, 1) := by decide +kernel
theorem d_Md_pour_61 : decode m_Md_pour.2.1 61 = .ok (.getfield 21, 3) := by decide +kernel
theorem d_Md_pour_64 : decode m_Md_pour.2.1 64 = .ok (.iload_n 1, 1) := by decide +kernel
theorem d_Md_pour_65 : decode m_Md_pour.2.1 65 = .ok (.iaload, 1) := by decide +kernel
theorem d_Md_pour_66 : decode m_Md_pour.2.1 66 = .ok (.aload_n 0, 1) := by decide +kernel
theorem d_Md_pour_67 : decode m_Md_pour.2.1 67 = .ok (.getfield 21, 3) := by decide +kernel
theorem d_Md_pour_70 : decode m_Md_pour.2.1 70 = .ok (.iload_n 3, 1) := by decide +kernel
theorem d_Md_pour_71 : decode m_Md_pour.2.1 71 = .ok (.iaload, 1) := by decide +kernel
theorem d_Md_pour_72 : decode m_Md_pour.2.1 72 = .ok (.if_icmp .eq 10, 3) := by decide +kernel
theorem d_Md_pour_82 : decode m_Md_pour.2.1 82 = .ok (.iload 5, 2) := by decide +kernel
theorem d_Md_pour_84 : decode m_Md_pour.2.1 84 = .ok (.aload_n 0, 1) := by decide +kernel
theorem d_Md_pour_85 : decode m_Md_pour.2.1 85 = .ok (.getfield 24, 3) := by decide +kernel
theorem d_Md_pour_88 : decode m_Md_pour.2.1 88 = .ok (.iload_n 1, 1) := by decide +kernel
theorem d_Md_pour_89 : decode m_Md_pour.2.1 89 = .ok (.iaload, 1) := by decide +kernel
theorem d_Md_pour_90 : decode m_Md_pour.2.1 90 = .ok (.iload_n 2, 1) := by decide +kernel
theorem d_Md_pour_91 : decode m_Md_pour.2.1 91 = .ok (.isub, 1) := by decide +kernel
theorem d_Md_pour_92 : decode m_Md_pour.2.1 92 = .ok (.if_icmp .gt 17, 3) := by decide +kernel
theorem d_Md_pour_109 : decode m_Md_pour.2.1 109 = .ok (.aload_n 0, 1) := by decide +kernel
theorem d_Md_pour_110 : decode m_Md_pour.2.1 110 = .ok (.iconst 3, 1) := by decide +kernel
theorem d_Md_pour_111 : decode m_Md_pour.2.1 111 = .ok (.invokevirtual 125, 3) := by decide +kernel
theorem d_Md_pour_114 : decode m_Md_pour.2.1 114 = .ok (.ireturn, 1) := by decide +kernel
theorem d_Md_pour_95 : decode m_Md_pour.2.1 95 = .ok (.iload 5, 2) := by decide +kernel
theorem d_Md_pour_97 : decode m_Md_pour.2.1 97 = .ok (.aload_n 0, 1) := by decide +kernel
theorem d_Md_pour_98 : decode m_Md_pour.2.1 98 = .ok (.getfield 24, 3) := by decide +kernel
theorem d_Md_pour_101 : decode m_Md_pour.2.1 101 = .ok (.iload_n 3, 1) := by decide +kernel
theorem d_Md_pour_102 : decode m_Md_pour.2.1 102 = .ok (.iaload, 1) := by decide +kernel
theorem d_Md_pour_103 : decode m_Md_pour.2.1 103 = .ok (.iload 4, 2) := by decide +kernel
theorem d_Md_pour_105 : decode m_Md_pour.2.1 105 = .ok (.isub, 1) := by decide +kernel
theorem d_Md_pour_106 : decode m_Md_pour.2.1 106 = .ok (.if_icmp .le 9, 3) := by decide +kernel
theorem d_Md_pour_115 : decode m_Md_pour.2.1 115 = .ok (.iconst 0, 1) := by decide +kernel
theorem d_Md_pour_116 : decode m_Md_pour.2.1 116 = .ok (.istore 6, 2) := by decide +kernel
theorem d_Md_pour_75 : decode m_Md_pour.2.1 75 = .ok (.aload_n 0, 1) := by decide +kernel
theorem d_Md_pour_76 : decode m_Md_pour.2.1 76 = .ok (.bipush 8, 2) := by decide +kernel
theorem d_Md_pour_78 : decode m_Md_pour.2.1 78 = .ok (.invokevirtual 125, 3) := by decide +kernel
theorem d_Md_pour_81 : decode m_Md_pour.2.1 81 = .ok (.ireturn, 1) := by decide +kernel
theorem d_Md_pour_118 : decode m_Md_pour.2.1 118 = .ok (.iload 6, 2) := by decide +kernel
theorem d_Md_pour_120 : decode m_Md_pour.2.1 120 = .ok (.iload 5, 2) := by decide +kernel
theorem d_Md_pour_122 : decode m_Md_pour.2.1 122 = .ok (.if_icmp .ge 58, 3) := by decide +kernel
theorem d_Md_pour_180 : decode m_Md_pour.2.1 180 = .ok (.aload_n 0, 1) := by decide +kernel
theorem d_Md_pour_181 : decode m_Md_pour.2.1 181 = .ok (.iconst 0, 1) := by decide +kernel
theorem d_Md_pour_182 : decode m_Md_pour.2.1 182 = .ok (.invokevirtual 125, 3) := by decide +kernel
theorem d_Md_pour_185 : decode m_Md_pour.2.1 185 = .ok (.ireturn, 1) := by decide +kernel
theorem d_Md_pour_125 : decode m_Md_pour.2.1 125 = .ok (.iload_n 2, 1) := by decide +kernel
theorem d_Md_pour_126 : decode m_Md_pour.2.1 126 = .ok (.iload 4, 2) := by decide +kernel
theorem d_Md_pour_128 : decode m_Md_pour.2.1 128 = .ok (.if_icmp .ge 13, 3) := by decide +kernel
theorem d_Md_pour_141 : decode m_Md_pour.2.1 141 = .ok (.iload 6, 2) := by decide +kernel
theorem d_Md_pour_143 : decode m_Md_pour.2.1 143 = .ok (.istore 7, 2) := by decide +kernel
theorem d_Md_pour_145 : decode m_Md_pour.2.1 145 = .ok (.aload_n 0, 1) := by decide +kernel
theorem d_Md_pour_146 : decode m_Md_pour.2.1 146 = .ok (.getfield 27, 3) := by decide +kernel
theorem d_Md_pour_149 : decode m_Md_pour.2.1 149 = .ok (.bipush 60, 2) := by decide +kernel
theorem d_Md_pour_151 : decode m_Md_pour.2.1 151 = .ok (.iload_n 3, 1) := by decide +kernel
theorem d_Md_pour_152 : decode m_Md_pour.2.1 152 = .ok (.imul, 1) := by decide +kernel
theorem d_Md_pour_153 : decode m_Md_pour.2.1 153 = .ok (.iload 4, 2) := by decide +kernel
theorem d_Md_pour_155 : decode m_Md_pour.2.1 155 = .ok (.iadd, 1) := by decide +kernel
theorem d_Md_pour_156 : decode m_Md_pour.2.1 156 = .ok (.iload 7, 2) := by decide +kernel
theorem d_Md_pour_158 : decode m_Md_pour.2.1 158 = .ok (.iadd, 1) := by decide +kernel
theorem d_Md_pour_159 : decode m_Md_pour.2.1 159 = .ok (.aload_n 0, 1) := by decide +kernel
theorem d_Md_pour_160 : decode m_Md_pour.2.1 160 = .ok (.getfield 27, 3) := by decide +kernel
theorem d_Md_pour_163 : decode m_Md_pour.2.1 163 = .ok (.bipush 60, 2) := by decide +kernel
theorem d_Md_pour_165 : decode m_Md_pour.2.1 165 = .ok (.iload_n 1, 1) := by decide +kernel
theorem d_Md_pour_166 : decode m_Md_pour.2.1 166 = .ok (.imul, 1) := by decide +kernel
theorem d_Md_pour_167 : decode m_Md_pour.2.1 167 = .ok (.iload_n 2, 1) := by decide +kernel
theorem d_Md_pour_168 : decode m_Md_pour.2.1 168 = .ok (.iadd, 1) := by decide +kernel
theorem d_Md_pour_169 : decode m_Md_pour.2.1 169 = .ok (.iload 7, 2) := by decide +kernel
theorem d_Md_pour_171 : decode m_Md_pour.2.1 171 = .ok (.iadd, 1) := by decide +kernel
theorem d_Md_pour_172 : decode m_Md_pour.2.1 172 = .ok (.laload, 1) := by decide +kernel
theorem d_Md_pour_173 : decode m_Md_pour.2.1 173 = .ok (.lastore, 1) := by decide +kernel
theorem d_Md_pour_174 : decode m_Md_pour.2.1 174 = .ok (.iinc 6 1, 3) := by decide +kernel
theorem d_Md_pour_177 : decode m_Md_pour.2.1 177 = .ok (.goto (-59), 3) := by decide +kernel
theorem d_Md_pour_131 : decode m_Md_pour.2.1 131 = .ok (.iload 5, 2) := by decide +kernel
theorem d_Md_pour_133 : decode m_Md_pour.2.1 133 = .ok (.iconst 1, 1) := by decide +kernel
theorem d_Md_pour_134 : decode m_Md_pour.2.1 134 = .ok (.isub, 1) := by decide +kernel
theorem d_Md_pour_135 : decode m_Md_pour.2.1 135 = .ok (.iload 6, 2) := by decide +kernel
theorem d_Md_pour_137 : decode m_Md_pour.2.1 137 = .ok (.isub, 1) := by decide +kernel
theorem d_Md_pour_138 : decode m_Md_pour.2.1 138 = .ok (.goto 5, 3) := by decide +kernel
abbrev m_Md_feed : aw_MI := (⟨"MaypoleGreenModel", "feed", "(IIIII)I"⟩, prog_14_method_19_code, 6, some .int)
theorem k_Md_feed : aw_K m_Md_feed 5 := ⟨aw_in 1458 (by decide +kernel) rfl, aw_in 16 (by decide +kernel) rfl, ⟨by decide, by decide, by decide +kernel⟩, by decide, by decide +kernel⟩
theorem d_Md_feed_0 : decode m_Md_feed.2.1 0 = .ok (.aload_n 0, 1) := by decide +kernel
theorem d_Md_feed_1 : decode m_Md_feed.2.1 1 = .ok (.getfield 142, 3) := by decide +kernel
theorem f_Md_142 : aw_F "MaypoleGreenModel" 142 11 10 false := ⟨cR11, cT11, 52, fun k => cY11.getD k .int, rfl, ci11, cy11, cn11, rfl, by decide, aw_in 1264 (by decide +kernel) rfl, rfl, rfl, rfl⟩
theorem d_Md_feed_4 : decode m_Md_feed.2.1 4 = .ok (.bipush 20, 2) := by decide +kernel
theorem d_Md_feed_6 : decode m_Md_feed.2.1 6 = .ok (.iadd, 1) := by decide +kernel
theorem d_Md_feed_7 : decode m_Md_feed.2.1 7 = .ok (.sipush 900, 3) := by decide +kernel
theorem d_Md_feed_10 : decode m_Md_feed.2.1 10 = .ok (.if_icmp .le 5, 3) := by decide +kernel
theorem d_Md_feed_15 : decode m_Md_feed.2.1 15 = .ok (.aload_n 0, 1) := by decide +kernel
theorem d_Md_feed_16 : decode m_Md_feed.2.1 16 = .ok (.iload_n 1, 1) := by decide +kernel
theorem d_Md_feed_17 : decode m_Md_feed.2.1 17 = .ok (.invokevirtual 145, 3) := by decide +kernel
abbrev m_Md_four : aw_MI := (⟨"MaypoleGreenModel", "four", "(I)V"⟩, prog_14_method_20_code, 3, none)
theorem lk_Md_145 : Cond.methodLink "MaypoleGreenModel" 145 m_Md_four.1 ∈ aw_T := aw_in 1459 (by decide +kernel) rfl
theorem k_Md_four : aw_K m_Md_four 1 := ⟨aw_in 1462 (by decide +kernel) rfl, aw_in 16 (by decide +kernel) rfl, ⟨by decide, by decide, by decide +kernel⟩, by decide, by decide +kernel⟩
theorem in_Md_four : Cond.instanceMethod m_Md_four.1 ∈ aw_T := aw_in 1461 (by decide +kernel) rfl
theorem se_Md_four : Cond.selects m_Md_four.1.cls m_Md_four.1 m_Md_four.1 ∈ aw_T := aw_inP 58 (by decide +kernel) rfl
theorem d_Md_feed_20 : decode m_Md_feed.2.1 20 = .ok (.aload_n 0, 1) := by decide +kernel
theorem d_Md_feed_21 : decode m_Md_feed.2.1 21 = .ok (.iload_n 2, 1) := by decide +kernel
theorem d_Md_feed_22 : decode m_Md_feed.2.1 22 = .ok (.invokevirtual 145, 3) := by decide +kernel
theorem d_Md_feed_25 : decode m_Md_feed.2.1 25 = .ok (.aload_n 0, 1) := by decide +kernel
theorem d_Md_feed_26 : decode m_Md_feed.2.1 26 = .ok (.iload_n 3, 1) := by decide +kernel
theorem d_Md_feed_27 : decode m_Md_feed.2.1 27 = .ok (.invokevirtual 145, 3) := by decide +kernel
theorem d_Md_feed_30 : decode m_Md_feed.2.1 30 = .ok (.aload_n 0, 1) := by decide +kernel
theorem d_Md_feed_31 : decode m_Md_feed.2.1 31 = .ok (.iload 4, 2) := by decide +kernel
theorem d_Md_feed_33 : decode m_Md_feed.2.1 33 = .ok (.invokevirtual 145, 3) := by decide +kernel
theorem d_Md_feed_36 : decode m_Md_feed.2.1 36 = .ok (.aload_n 0, 1) := by decide +kernel
theorem d_Md_feed_37 : decode m_Md_feed.2.1 37 = .ok (.iload 5, 2) := by decide +kernel
theorem d_Md_feed_39 : decode m_Md_feed.2.1 39 = .ok (.invokevirtual 145, 3) := by decide +kernel
theorem d_Md_feed_42 : decode m_Md_feed.2.1 42 = .ok (.aload_n 0, 1) := by decide +kernel
theorem d_Md_feed_43 : decode m_Md_feed.2.1 43 = .ok (.getfield 142, 3) := by decide +kernel
theorem d_Md_feed_46 : decode m_Md_feed.2.1 46 = .ok (.ireturn, 1) := by decide +kernel
theorem d_Md_feed_13 : decode m_Md_feed.2.1 13 = .ok (.iconst (-1), 1) := by decide +kernel
theorem d_Md_feed_14 : decode m_Md_feed.2.1 14 = .ok (.ireturn, 1) := by decide +kernel
theorem d_Md_four_0 : decode m_Md_four.2.1 0 = .ok (.bipush 24, 2) := by decide +kernel
theorem d_Md_four_2 : decode m_Md_four.2.1 2 = .ok (.istore_n 2, 1) := by decide +kernel
theorem d_Md_four_3 : decode m_Md_four.2.1 3 = .ok (.iload_n 2, 1) := by decide +kernel
theorem d_Md_four_4 : decode m_Md_four.2.1 4 = .ok (.ifCond .lt 32, 3) := by decide +kernel
theorem d_Md_four_36 : decode m_Md_four.2.1 36 = .ok (.return_, 1) := by decide +kernel
theorem d_Md_four_7 : decode m_Md_four.2.1 7 = .ok (.aload_n 0, 1) := by decide +kernel
theorem d_Md_four_8 : decode m_Md_four.2.1 8 = .ok (.getfield 30, 3) := by decide +kernel
theorem f_Md_30 : aw_F "MaypoleGreenModel" 30 11 8 true := ⟨cR11, cT11, 52, fun k => cY11.getD k .int, rfl, ci11, cy11, cn11, rfl, by decide, aw_in 1262 (by decide +kernel) rfl, rfl, rfl, rfl⟩
theorem d_Md_four_11 : decode m_Md_four.2.1 11 = .ok (.aload_n 0, 1) := by decide +kernel
theorem d_Md_four_12 : decode m_Md_four.2.1 12 = .ok (.getfield 142, 3) := by decide +kernel
theorem d_Md_four_15 : decode m_Md_four.2.1 15 = .ok (.iload_n 1, 1) := by decide +kernel
theorem d_Md_four_16 : decode m_Md_four.2.1 16 = .ok (.iload_n 2, 1) := by decide +kernel
theorem d_Md_four_17 : decode m_Md_four.2.1 17 = .ok (.ishr, 1) := by decide +kernel
theorem d_Md_four_18 : decode m_Md_four.2.1 18 = .ok (.i2b, 1) := by decide +kernel
theorem d_Md_four_19 : decode m_Md_four.2.1 19 = .ok (.bastore, 1) := by decide +kernel
theorem d_Md_four_20 : decode m_Md_four.2.1 20 = .ok (.aload_n 0, 1) := by decide +kernel
theorem d_Md_four_21 : decode m_Md_four.2.1 21 = .ok (.dup, 1) := by decide +kernel
theorem d_Md_four_22 : decode m_Md_four.2.1 22 = .ok (.getfield 142, 3) := by decide +kernel
theorem d_Md_four_25 : decode m_Md_four.2.1 25 = .ok (.iconst 1, 1) := by decide +kernel
theorem d_Md_four_26 : decode m_Md_four.2.1 26 = .ok (.iadd, 1) := by decide +kernel
theorem d_Md_four_27 : decode m_Md_four.2.1 27 = .ok (.putfield 142, 3) := by decide +kernel
theorem d_Md_four_30 : decode m_Md_four.2.1 30 = .ok (.iinc 2 (-8), 3) := by decide +kernel
theorem d_Md_four_33 : decode m_Md_four.2.1 33 = .ok (.goto (-30), 3) := by decide +kernel
abbrev m_Md_fault : aw_MI := (⟨"MaypoleGreenModel", "fault", "(I)I"⟩, prog_14_method_35_code, 2, some .int)
theorem k_Md_fault : aw_K m_Md_fault 1 := ⟨aw_in 1466 (by decide +kernel) rfl, aw_in 16 (by decide +kernel) rfl, ⟨by decide, by decide, by decide +kernel⟩, by decide, by decide +kernel⟩
theorem d_Md_fault_0 : decode m_Md_fault.2.1 0 = .ok (.iload_n 1, 1) := by decide +kernel
theorem d_Md_fault_1 : decode m_Md_fault.2.1 1 = .ok (.ifCond .ne 10, 3) := by decide +kernel
theorem d_Md_fault_11 : decode m_Md_fault.2.1 11 = .ok (.iload_n 1, 1) := by decide +kernel
theorem d_Md_fault_12 : decode m_Md_fault.2.1 12 = .ok (.iconst 1, 1) := by decide +kernel
theorem d_Md_fault_13 : decode m_Md_fault.2.1 13 = .ok (.if_icmp .ne 10, 3) := by decide +kernel
theorem d_Md_fault_23 : decode m_Md_fault.2.1 23 = .ok (.iconst (-1), 1) := by decide +kernel
theorem d_Md_fault_24 : decode m_Md_fault.2.1 24 = .ok (.ireturn, 1) := by decide +kernel
theorem d_Md_fault_16 : decode m_Md_fault.2.1 16 = .ok (.aload_n 0, 1) := by decide +kernel
theorem d_Md_fault_17 : decode m_Md_fault.2.1 17 = .ok (.getfield 41, 3) := by decide +kernel
theorem f_Md_41 : aw_F "MaypoleGreenModel" 41 11 17 false := ⟨cR11, cT11, 52, fun k => cY11.getD k .int, rfl, ci11, cy11, cn11, rfl, by decide, aw_in 1271 (by decide +kernel) rfl, rfl, rfl, rfl⟩
theorem d_Md_fault_20 : decode m_Md_fault.2.1 20 = .ok (.goto 4, 3) := by decide +kernel
theorem d_Md_fault_4 : decode m_Md_fault.2.1 4 = .ok (.aload_n 0, 1) := by decide +kernel
theorem d_Md_fault_5 : decode m_Md_fault.2.1 5 = .ok (.getfield 37, 3) := by decide +kernel
theorem f_Md_37 : aw_F "MaypoleGreenModel" 37 11 16 false := ⟨cR11, cT11, 52, fun k => cY11.getD k .int, rfl, ci11, cy11, cn11, rfl, by decide, aw_in 1270 (by decide +kernel) rfl, rfl, rfl, rfl⟩
theorem d_Md_fault_8 : decode m_Md_fault.2.1 8 = .ok (.goto 16, 3) := by decide +kernel
abbrev m_Md_green : aw_MI := (⟨"MaypoleGreenModel", "green", "(I)I"⟩, prog_14_method_52_code, 4, some .int)
theorem k_Md_green : aw_K m_Md_green 1 := ⟨aw_in 1470 (by decide +kernel) rfl, aw_in 16 (by decide +kernel) rfl, ⟨by decide, by decide, by decide +kernel⟩, by decide, by decide +kernel⟩
theorem d_Md_green_0 : decode m_Md_green.2.1 0 = .ok (.aload_n 0, 1) := by decide +kernel
theorem d_Md_green_1 : decode m_Md_green.2.1 1 = .ok (.iload_n 1, 1) := by decide +kernel
theorem d_Md_green_2 : decode m_Md_green.2.1 2 = .ok (.sipush 900, 3) := by decide +kernel
theorem d_Md_green_5 : decode m_Md_green.2.1 5 = .ok (.invokevirtual 283, 3) := by decide +kernel
abbrev m_Md_begins : aw_MI := (⟨"MaypoleGreenModel", "begins", "(II)Z"⟩, prog_14_method_28_code, 4, some .boolean)
theorem lk_Md_283 : Cond.methodLink "MaypoleGreenModel" 283 m_Md_begins.1 ∈ aw_T := aw_in 1471 (by decide +kernel) rfl
theorem k_Md_begins : aw_K m_Md_begins 2 := ⟨aw_in 1474 (by decide +kernel) rfl, aw_in 16 (by decide +kernel) rfl, ⟨by decide, by decide, by decide +kernel⟩, by decide, by decide +kernel⟩
theorem in_Md_begins : Cond.instanceMethod m_Md_begins.1 ∈ aw_T := aw_in 1473 (by decide +kernel) rfl
theorem se_Md_begins : Cond.selects m_Md_begins.1.cls m_Md_begins.1 m_Md_begins.1 ∈ aw_T := aw_inP 59 (by decide +kernel) rfl
theorem d_Md_green_8 : decode m_Md_green.2.1 8 = .ok (.ifCond .ne 9, 3) := by decide +kernel
theorem d_Md_green_17 : decode m_Md_green.2.1 17 = .ok (.aload_n 0, 1) := by decide +kernel
theorem d_Md_green_18 : decode m_Md_green.2.1 18 = .ok (.sipush 2208, 3) := by decide +kernel
theorem d_Md_green_21 : decode m_Md_green.2.1 21 = .ok (.invokevirtual 108, 3) := by decide +kernel
theorem lk_Md_108 : Cond.methodLink "MaypoleGreenModel" 108 m_Md_plain.1 ∈ aw_T := aw_in 1250 (by decide +kernel) rfl
theorem in_Md_plain : Cond.instanceMethod m_Md_plain.1 ∈ aw_T := aw_in 1252 (by decide +kernel) rfl
theorem se_Md_plain : Cond.selects m_Md_plain.1.cls m_Md_plain.1 m_Md_plain.1 ∈ aw_T := aw_inP 55 (by decide +kernel) rfl
theorem d_Md_green_24 : decode m_Md_green.2.1 24 = .ok (.aload_n 0, 1) := by decide +kernel
theorem d_Md_green_25 : decode m_Md_green.2.1 25 = .ok (.iconst 0, 1) := by decide +kernel
theorem d_Md_green_26 : decode m_Md_green.2.1 26 = .ok (.putfield 238, 3) := by decide +kernel
theorem f_Md_238 : aw_F "MaypoleGreenModel" 238 11 20 false := ⟨cR11, cT11, 52, fun k => cY11.getD k .int, rfl, ci11, cy11, cn11, rfl, by decide, aw_in 1274 (by decide +kernel) rfl, rfl, rfl, rfl⟩
theorem d_Md_green_29 : decode m_Md_green.2.1 29 = .ok (.iconst 1, 1) := by decide +kernel
theorem d_Md_green_30 : decode m_Md_green.2.1 30 = .ok (.istore_n 2, 1) := by decide +kernel
theorem d_Md_green_11 : decode m_Md_green.2.1 11 = .ok (.aload_n 0, 1) := by decide +kernel
theorem d_Md_green_12 : decode m_Md_green.2.1 12 = .ok (.iconst 1, 1) := by decide +kernel
theorem d_Md_green_13 : decode m_Md_green.2.1 13 = .ok (.invokevirtual 118, 3) := by decide +kernel
abbrev m_Md_refuse : aw_MI := (⟨"MaypoleGreenModel", "refuse", "(I)I"⟩, prog_14_method_7_code, 2, some .int)
theorem lk_Md_118 : Cond.methodLink "MaypoleGreenModel" 118 m_Md_refuse.1 ∈ aw_T := aw_in 1491 (by decide +kernel) rfl
theorem k_Md_refuse : aw_K m_Md_refuse 1 := ⟨aw_in 1494 (by decide +kernel) rfl, aw_in 16 (by decide +kernel) rfl, ⟨by decide, by decide, by decide +kernel⟩, by decide, by decide +kernel⟩
theorem in_Md_refuse : Cond.instanceMethod m_Md_refuse.1 ∈ aw_T := aw_in 1493 (by decide +kernel) rfl
theorem se_Md_refuse : Cond.selects m_Md_refuse.1.cls m_Md_refuse.1 m_Md_refuse.1 ∈ aw_T := aw_inP 62 (by decide +kernel) rfl
theorem d_Md_green_16 : decode m_Md_green.2.1 16 = .ok (.ireturn, 1) := by decide +kernel
theorem d_Md_green_31 : decode m_Md_green.2.1 31 = .ok (.iload_n 2, 1) := by decide +kernel
theorem d_Md_green_32 : decode m_Md_green.2.1 32 = .ok (.ifCond .eq 18, 3) := by decide +kernel
theorem d_Md_green_50 : decode m_Md_green.2.1 50 = .ok (.aload_n 0, 1) := by decide +kernel
theorem d_Md_green_51 : decode m_Md_green.2.1 51 = .ok (.getfield 188, 3) := by decide +kernel
theorem f_Md_188 : aw_F "MaypoleGreenModel" 188 11 18 false := ⟨cR11, cT11, 52, fun k => cY11.getD k .int, rfl, ci11, cy11, cn11, rfl, by decide, aw_in 1272 (by decide +kernel) rfl, rfl, rfl, rfl⟩
theorem d_Md_green_54 : decode m_Md_green.2.1 54 = .ok (.ifCond .ne 63, 3) := by decide +kernel
theorem d_Md_green_117 : decode m_Md_green.2.1 117 = .ok (.aload_n 0, 1) := by decide +kernel
theorem d_Md_green_118 : decode m_Md_green.2.1 118 = .ok (.aload_n 0, 1) := by decide +kernel
theorem d_Md_green_119 : decode m_Md_green.2.1 119 = .ok (.getfield 7, 3) := by decide +kernel
theorem d_Md_green_122 : decode m_Md_green.2.1 122 = .ok (.iconst 0, 1) := by decide +kernel
theorem d_Md_green_123 : decode m_Md_green.2.1 123 = .ok (.iaload, 1) := by decide +kernel
theorem d_Md_green_124 : decode m_Md_green.2.1 124 = .ok (.invokevirtual 289, 3) := by decide +kernel
abbrev m_Md_taken : aw_MI := (⟨"MaypoleGreenModel", "taken", "(I)I"⟩, prog_14_method_36_code, 2, some .int)
theorem lk_Md_289 : Cond.methodLink "MaypoleGreenModel" 289 m_Md_taken.1 ∈ aw_T := aw_in 1594 (by decide +kernel) rfl
theorem k_Md_taken : aw_K m_Md_taken 1 := ⟨aw_in 1597 (by decide +kernel) rfl, aw_in 16 (by decide +kernel) rfl, ⟨by decide, by decide, by decide +kernel⟩, by decide, by decide +kernel⟩
theorem in_Md_taken : Cond.instanceMethod m_Md_taken.1 ∈ aw_T := aw_in 1596 (by decide +kernel) rfl
theorem se_Md_taken : Cond.selects m_Md_taken.1.cls m_Md_taken.1 m_Md_taken.1 ∈ aw_T := aw_inP 86 (by decide +kernel) rfl
theorem d_Md_green_127 : decode m_Md_green.2.1 127 = .ok (.ireturn, 1) := by decide +kernel
theorem d_Md_green_57 : decode m_Md_green.2.1 57 = .ok (.iconst 0, 1) := by decide +kernel
theorem d_Md_green_58 : decode m_Md_green.2.1 58 = .ok (.istore_n 3, 1) := by decide +kernel
theorem d_Md_green_35 : decode m_Md_green.2.1 35 = .ok (.aload_n 0, 1) := by decide +kernel
theorem d_Md_green_36 : decode m_Md_green.2.1 36 = .ok (.getfield 163, 3) := by decide +kernel
theorem f_Md_163 : aw_F "MaypoleGreenModel" 163 11 12 false := ⟨cR11, cT11, 52, fun k => cY11.getD k .int, rfl, ci11, cy11, cn11, rfl, by decide, aw_in 1266 (by decide +kernel) rfl, rfl, rfl, rfl⟩
theorem d_Md_green_39 : decode m_Md_green.2.1 39 = .ok (.ifCond .eq 11, 3) := by decide +kernel
theorem d_Md_green_42 : decode m_Md_green.2.1 42 = .ok (.aload_n 0, 1) := by decide +kernel
theorem d_Md_green_43 : decode m_Md_green.2.1 43 = .ok (.invokevirtual 286, 3) := by decide +kernel
abbrev m_Md_greenPart : aw_MI := (⟨"MaypoleGreenModel", "greenPart", "()Z"⟩, prog_14_method_51_code, 3, some .boolean)
theorem lk_Md_286 : Cond.methodLink "MaypoleGreenModel" 286 m_Md_greenPart.1 ∈ aw_T := aw_in 1495 (by decide +kernel) rfl
theorem k_Md_greenPart : aw_K m_Md_greenPart 0 := ⟨aw_in 1498 (by decide +kernel) rfl, aw_in 16 (by decide +kernel) rfl, ⟨by decide, by decide, by decide +kernel⟩, by decide, by decide +kernel⟩
theorem in_Md_greenPart : Cond.instanceMethod m_Md_greenPart.1 ∈ aw_T := aw_in 1497 (by decide +kernel) rfl
theorem se_Md_greenPart : Cond.selects m_Md_greenPart.1.cls m_Md_greenPart.1 m_Md_greenPart.1 ∈ aw_T := aw_inP 63 (by decide +kernel) rfl
theorem d_Md_green_46 : decode m_Md_green.2.1 46 = .ok (.istore_n 2, 1) := by decide +kernel
theorem d_Md_green_47 : decode m_Md_green.2.1 47 = .ok (.goto (-16), 3) := by decide +kernel
theorem d_Md_green_59 : decode m_Md_green.2.1 59 = .ok (.iload_n 3, 1) := by decide +kernel
theorem d_Md_green_60 : decode m_Md_green.2.1 60 = .ok (.sipush 552, 3) := by decide +kernel
theorem d_Md_green_63 : decode m_Md_green.2.1 63 = .ok (.if_icmp .ge 25, 3) := by decide +kernel
theorem d_Md_green_88 : decode m_Md_green.2.1 88 = .ok (.iconst 0, 1) := by decide +kernel
theorem d_Md_green_89 : decode m_Md_green.2.1 89 = .ok (.istore_n 3, 1) := by decide +kernel
theorem d_Md_green_66 : decode m_Md_green.2.1 66 = .ok (.aload_n 0, 1) := by decide +kernel
theorem d_Md_green_67 : decode m_Md_green.2.1 67 = .ok (.getfield 7, 3) := by decide +kernel
theorem d_Md_green_70 : decode m_Md_green.2.1 70 = .ok (.iload_n 3, 1) := by decide +kernel
theorem d_Md_green_71 : decode m_Md_green.2.1 71 = .ok (.aload_n 0, 1) := by decide +kernel
theorem d_Md_green_72 : decode m_Md_green.2.1 72 = .ok (.getfield 7, 3) := by decide +kernel
theorem d_Md_green_75 : decode m_Md_green.2.1 75 = .ok (.sipush 2208, 3) := by decide +kernel
theorem d_Md_green_78 : decode m_Md_green.2.1 78 = .ok (.iload_n 3, 1) := by decide +kernel
theorem d_Md_green_79 : decode m_Md_green.2.1 79 = .ok (.iadd, 1) := by decide +kernel
theorem d_Md_green_80 : decode m_Md_green.2.1 80 = .ok (.iaload, 1) := by decide +kernel
theorem d_Md_green_81 : decode m_Md_green.2.1 81 = .ok (.iastore, 1) := by decide +kernel
theorem d_Md_green_82 : decode m_Md_green.2.1 82 = .ok (.iinc 3 1, 3) := by decide +kernel
theorem d_Md_green_85 : decode m_Md_green.2.1 85 = .ok (.goto (-26), 3) := by decide +kernel
theorem d_Md_green_90 : decode m_Md_green.2.1 90 = .ok (.iload_n 3, 1) := by decide +kernel
theorem d_Md_green_91 : decode m_Md_green.2.1 91 = .ok (.bipush 7, 2) := by decide +kernel
theorem d_Md_green_93 : decode m_Md_green.2.1 93 = .ok (.if_icmp .ge 24, 3) := by decide +kernel
theorem d_Md_green_96 : decode m_Md_green.2.1 96 = .ok (.aload_n 0, 1) := by decide +kernel
theorem d_Md_green_97 : decode m_Md_green.2.1 97 = .ok (.getfield 13, 3) := by decide +kernel
theorem f_Md_13 : aw_F "MaypoleGreenModel" 13 11 1 true := ⟨cR11, cT11, 52, fun k => cY11.getD k .int, rfl, ci11, cy11, cn11, rfl, by decide, aw_in 1255 (by decide +kernel) rfl, rfl, rfl, rfl⟩
theorem d_Md_green_100 : decode m_Md_green.2.1 100 = .ok (.iload_n 3, 1) := by decide +kernel
theorem d_Md_green_101 : decode m_Md_green.2.1 101 = .ok (.aload_n 0, 1) := by decide +kernel
theorem d_Md_green_102 : decode m_Md_green.2.1 102 = .ok (.getfield 13, 3) := by decide +kernel
theorem d_Md_green_105 : decode m_Md_green.2.1 105 = .ok (.bipush 28, 2) := by decide +kernel
theorem d_Md_green_107 : decode m_Md_green.2.1 107 = .ok (.iload_n 3, 1) := by decide +kernel
theorem d_Md_green_108 : decode m_Md_green.2.1 108 = .ok (.iadd, 1) := by decide +kernel
theorem d_Md_green_109 : decode m_Md_green.2.1 109 = .ok (.laload, 1) := by decide +kernel
theorem d_Md_green_110 : decode m_Md_green.2.1 110 = .ok (.lastore, 1) := by decide +kernel
theorem d_Md_green_111 : decode m_Md_green.2.1 111 = .ok (.iinc 3 1, 3) := by decide +kernel
theorem d_Md_green_114 : decode m_Md_green.2.1 114 = .ok (.goto (-24), 3) := by decide +kernel
theorem d_Md_begins_0 : decode m_Md_begins.2.1 0 = .ok (.iload_n 1, 1) := by decide +kernel
theorem d_Md_begins_1 : decode m_Md_begins.2.1 1 = .ok (.ifCond .lt 16, 3) := by decide +kernel
theorem d_Md_begins_17 : decode m_Md_begins.2.1 17 = .ok (.iconst 0, 1) := by decide +kernel
theorem d_Md_begins_18 : decode m_Md_begins.2.1 18 = .ok (.ireturn, 1) := by decide +kernel
theorem d_Md_begins_4 : decode m_Md_begins.2.1 4 = .ok (.iload_n 1, 1) := by decide +kernel
theorem d_Md_begins_5 : decode m_Md_begins.2.1 5 = .ok (.aload_n 0, 1) := by decide +kernel
theorem d_Md_begins_6 : decode m_Md_begins.2.1 6 = .ok (.getfield 142, 3) := by decide +kernel
theorem d_Md_begins_9 : decode m_Md_begins.2.1 9 = .ok (.if_icmp .gt 8, 3) := by decide +kernel
theorem d_Md_begins_12 : decode m_Md_begins.2.1 12 = .ok (.iload_n 1, 1) := by decide +kernel
theorem d_Md_begins_13 : decode m_Md_begins.2.1 13 = .ok (.iload_n 2, 1) := by decide +kernel
theorem d_Md_begins_14 : decode m_Md_begins.2.1 14 = .ok (.if_icmp .le 5, 3) := by decide +kernel
theorem d_Md_begins_19 : decode m_Md_begins.2.1 19 = .ok (.aload_n 0, 1) := by decide +kernel
theorem d_Md_begins_20 : decode m_Md_begins.2.1 20 = .ok (.iload_n 1, 1) := by decide +kernel
theorem d_Md_begins_21 : decode m_Md_begins.2.1 21 = .ok (.putfield 148, 3) := by decide +kernel
theorem f_Md_148 : aw_F "MaypoleGreenModel" 148 11 11 false := ⟨cR11, cT11, 52, fun k => cY11.getD k .int, rfl, ci11, cy11, cn11, rfl, by decide, aw_in 1265 (by decide +kernel) rfl, rfl, rfl, rfl⟩
theorem d_Md_begins_24 : decode m_Md_begins.2.1 24 = .ok (.iconst 0, 1) := by decide +kernel
theorem d_Md_begins_25 : decode m_Md_begins.2.1 25 = .ok (.istore_n 3, 1) := by decide +kernel
theorem d_Md_begins_26 : decode m_Md_begins.2.1 26 = .ok (.iload_n 3, 1) := by decide +kernel
theorem d_Md_begins_27 : decode m_Md_begins.2.1 27 = .ok (.iload_n 1, 1) := by decide +kernel
theorem d_Md_begins_28 : decode m_Md_begins.2.1 28 = .ok (.if_icmp .ge 21, 3) := by decide +kernel
theorem d_Md_begins_49 : decode m_Md_begins.2.1 49 = .ok (.aload_n 0, 1) := by decide +kernel
theorem d_Md_begins_50 : decode m_Md_begins.2.1 50 = .ok (.iconst 0, 1) := by decide +kernel
theorem d_Md_begins_51 : decode m_Md_begins.2.1 51 = .ok (.putfield 142, 3) := by decide +kernel
theorem d_Md_begins_54 : decode m_Md_begins.2.1 54 = .ok (.aload_n 0, 1) := by decide +kernel
theorem d_Md_begins_55 : decode m_Md_begins.2.1 55 = .ok (.iconst 0, 1) := by decide +kernel
theorem d_Md_begins_56 : decode m_Md_begins.2.1 56 = .ok (.putfield 188, 3) := by decide +kernel
theorem d_Md_begins_59 : decode m_Md_begins.2.1 59 = .ok (.aload_n 0, 1) := by decide +kernel
theorem d_Md_begins_60 : decode m_Md_begins.2.1 60 = .ok (.iconst (-1), 1) := by decide +kernel
theorem d_Md_begins_61 : decode m_Md_begins.2.1 61 = .ok (.putfield 41, 3) := by decide +kernel
theorem d_Md_begins_64 : decode m_Md_begins.2.1 64 = .ok (.aload_n 0, 1) := by decide +kernel
theorem d_Md_begins_65 : decode m_Md_begins.2.1 65 = .ok (.iconst 0, 1) := by decide +kernel
theorem d_Md_begins_66 : decode m_Md_begins.2.1 66 = .ok (.putfield 151, 3) := by decide +kernel
theorem f_Md_151 : aw_F "MaypoleGreenModel" 151 11 14 false := ⟨cR11, cT11, 52, fun k => cY11.getD k .int, rfl, ci11, cy11, cn11, rfl, by decide, aw_in 1268 (by decide +kernel) rfl, rfl, rfl, rfl⟩
theorem d_Md_begins_69 : decode m_Md_begins.2.1 69 = .ok (.aload_n 0, 1) := by decide +kernel
theorem d_Md_begins_70 : decode m_Md_begins.2.1 70 = .ok (.iconst 0, 1) := by decide +kernel
theorem d_Md_begins_71 : decode m_Md_begins.2.1 71 = .ok (.putfield 191, 3) := by decide +kernel
theorem f_Md_191 : aw_F "MaypoleGreenModel" 191 11 19 false := ⟨cR11, cT11, 52, fun k => cY11.getD k .int, rfl, ci11, cy11, cn11, rfl, by decide, aw_in 1273 (by decide +kernel) rfl, rfl, rfl, rfl⟩
theorem d_Md_begins_74 : decode m_Md_begins.2.1 74 = .ok (.aload_n 0, 1) := by decide +kernel
theorem d_Md_begins_75 : decode m_Md_begins.2.1 75 = .ok (.invokevirtual 194, 3) := by decide +kernel
abbrev m_Md_ahead : aw_MI := (⟨"MaypoleGreenModel", "ahead", "()V"⟩, prog_14_method_24_code, 2, none)
theorem lk_Md_194 : Cond.methodLink "MaypoleGreenModel" 194 m_Md_ahead.1 ∈ aw_T := aw_in 1475 (by decide +kernel) rfl
theorem k_Md_ahead : aw_K m_Md_ahead 0 := ⟨aw_in 1478 (by decide +kernel) rfl, aw_in 16 (by decide +kernel) rfl, ⟨by decide, by decide, by decide +kernel⟩, by decide, by decide +kernel⟩
theorem in_Md_ahead : Cond.instanceMethod m_Md_ahead.1 ∈ aw_T := aw_in 1477 (by decide +kernel) rfl
theorem se_Md_ahead : Cond.selects m_Md_ahead.1.cls m_Md_ahead.1 m_Md_ahead.1 ∈ aw_T := aw_inP 60 (by decide +kernel) rfl
theorem d_Md_begins_78 : decode m_Md_begins.2.1 78 = .ok (.iconst 1, 1) := by decide +kernel
theorem d_Md_begins_79 : decode m_Md_begins.2.1 79 = .ok (.ireturn, 1) := by decide +kernel
theorem d_Md_begins_31 : decode m_Md_begins.2.1 31 = .ok (.aload_n 0, 1) := by decide +kernel
theorem d_Md_begins_32 : decode m_Md_begins.2.1 32 = .ok (.getfield 34, 3) := by decide +kernel
theorem f_Md_34 : aw_F "MaypoleGreenModel" 34 11 9 true := ⟨cR11, cT11, 52, fun k => cY11.getD k .int, rfl, ci11, cy11, cn11, rfl, by decide, aw_in 1263 (by decide +kernel) rfl, rfl, rfl, rfl⟩
theorem d_Md_begins_35 : decode m_Md_begins.2.1 35 = .ok (.iload_n 3, 1) := by decide +kernel
theorem d_Md_begins_36 : decode m_Md_begins.2.1 36 = .ok (.aload_n 0, 1) := by decide +kernel
theorem d_Md_begins_37 : decode m_Md_begins.2.1 37 = .ok (.getfield 30, 3) := by decide +kernel
theorem d_Md_begins_40 : decode m_Md_begins.2.1 40 = .ok (.iload_n 3, 1) := by decide +kernel
theorem d_Md_begins_41 : decode m_Md_begins.2.1 41 = .ok (.baload, 1) := by decide +kernel
theorem d_Md_begins_42 : decode m_Md_begins.2.1 42 = .ok (.bastore, 1) := by decide +kernel
theorem d_Md_begins_43 : decode m_Md_begins.2.1 43 = .ok (.iinc 3 1, 3) := by decide +kernel
theorem d_Md_begins_46 : decode m_Md_begins.2.1 46 = .ok (.goto (-20), 3) := by decide +kernel
theorem d_Md_ahead_0 : decode m_Md_ahead.2.1 0 = .ok (.aload_n 0, 1) := by decide +kernel
theorem d_Md_ahead_1 : decode m_Md_ahead.2.1 1 = .ok (.aload_n 0, 1) := by decide +kernel
theorem d_Md_ahead_2 : decode m_Md_ahead.2.1 2 = .ok (.getfield 151, 3) := by decide +kernel
theorem d_Md_ahead_5 : decode m_Md_ahead.2.1 5 = .ok (.invokevirtual 154, 3) := by decide +kernel
abbrev m_Md_byteAt : aw_MI := (⟨"MaypoleGreenModel", "byteAt", "(I)I"⟩, prog_14_method_21_code, 2, some .int)
theorem lk_Md_154 : Cond.methodLink "MaypoleGreenModel" 154 m_Md_byteAt.1 ∈ aw_T := aw_in 1479 (by decide +kernel) rfl
theorem k_Md_byteAt : aw_K m_Md_byteAt 1 := ⟨aw_in 1482 (by decide +kernel) rfl, aw_in 16 (by decide +kernel) rfl, ⟨by decide, by decide, by decide +kernel⟩, by decide, by decide +kernel⟩
theorem in_Md_byteAt : Cond.instanceMethod m_Md_byteAt.1 ∈ aw_T := aw_in 1481 (by decide +kernel) rfl
theorem se_Md_byteAt : Cond.selects m_Md_byteAt.1.cls m_Md_byteAt.1 m_Md_byteAt.1 ∈ aw_T := aw_inP 61 (by decide +kernel) rfl
theorem d_Md_ahead_8 : decode m_Md_ahead.2.1 8 = .ok (.bipush 32, 2) := by decide +kernel
theorem d_Md_ahead_10 : decode m_Md_ahead.2.1 10 = .ok (.if_icmp .eq 16, 3) := by decide +kernel
theorem d_Md_ahead_26 : decode m_Md_ahead.2.1 26 = .ok (.aload_n 0, 1) := by decide +kernel
theorem d_Md_ahead_27 : decode m_Md_ahead.2.1 27 = .ok (.dup, 1) := by decide +kernel
theorem d_Md_ahead_28 : decode m_Md_ahead.2.1 28 = .ok (.getfield 151, 3) := by decide +kernel
theorem d_Md_ahead_31 : decode m_Md_ahead.2.1 31 = .ok (.iconst 1, 1) := by decide +kernel
theorem d_Md_ahead_32 : decode m_Md_ahead.2.1 32 = .ok (.iadd, 1) := by decide +kernel
theorem d_Md_ahead_33 : decode m_Md_ahead.2.1 33 = .ok (.putfield 151, 3) := by decide +kernel
theorem d_Md_ahead_36 : decode m_Md_ahead.2.1 36 = .ok (.goto (-36), 3) := by decide +kernel
theorem d_Md_ahead_13 : decode m_Md_ahead.2.1 13 = .ok (.aload_n 0, 1) := by decide +kernel
theorem d_Md_ahead_14 : decode m_Md_ahead.2.1 14 = .ok (.aload_n 0, 1) := by decide +kernel
theorem d_Md_ahead_15 : decode m_Md_ahead.2.1 15 = .ok (.getfield 151, 3) := by decide +kernel
theorem d_Md_ahead_18 : decode m_Md_ahead.2.1 18 = .ok (.invokevirtual 154, 3) := by decide +kernel
theorem d_Md_ahead_21 : decode m_Md_ahead.2.1 21 = .ok (.bipush 10, 2) := by decide +kernel
theorem d_Md_ahead_23 : decode m_Md_ahead.2.1 23 = .ok (.if_icmp .ne 16, 3) := by decide +kernel
theorem d_Md_ahead_39 : decode m_Md_ahead.2.1 39 = .ok (.aload_n 0, 1) := by decide +kernel
theorem d_Md_ahead_40 : decode m_Md_ahead.2.1 40 = .ok (.aload_n 0, 1) := by decide +kernel
theorem d_Md_ahead_41 : decode m_Md_ahead.2.1 41 = .ok (.getfield 151, 3) := by decide +kernel
theorem d_Md_ahead_44 : decode m_Md_ahead.2.1 44 = .ok (.putfield 157, 3) := by decide +kernel
theorem f_Md_157 : aw_F "MaypoleGreenModel" 157 11 13 false := ⟨cR11, cT11, 52, fun k => cY11.getD k .int, rfl, ci11, cy11, cn11, rfl, by decide, aw_in 1267 (by decide +kernel) rfl, rfl, rfl, rfl⟩
theorem d_Md_ahead_47 : decode m_Md_ahead.2.1 47 = .ok (.aload_n 0, 1) := by decide +kernel
theorem d_Md_ahead_48 : decode m_Md_ahead.2.1 48 = .ok (.aload_n 0, 1) := by decide +kernel
theorem d_Md_ahead_49 : decode m_Md_ahead.2.1 49 = .ok (.getfield 151, 3) := by decide +kernel
theorem d_Md_ahead_52 : decode m_Md_ahead.2.1 52 = .ok (.invokevirtual 154, 3) := by decide +kernel
theorem d_Md_ahead_55 : decode m_Md_ahead.2.1 55 = .ok (.istore_n 1, 1) := by decide +kernel
theorem d_Md_ahead_56 : decode m_Md_ahead.2.1 56 = .ok (.aload_n 0, 1) := by decide +kernel
theorem d_Md_ahead_57 : decode m_Md_ahead.2.1 57 = .ok (.iload_n 1, 1) := by decide +kernel
theorem d_Md_ahead_58 : decode m_Md_ahead.2.1 58 = .ok (.putfield 160, 3) := by decide +kernel
theorem f_Md_160 : aw_F "MaypoleGreenModel" 160 11 15 false := ⟨cR11, cT11, 52, fun k => cY11.getD k .int, rfl, ci11, cy11, cn11, rfl, by decide, aw_in 1269 (by decide +kernel) rfl, rfl, rfl, rfl⟩
theorem d_Md_ahead_61 : decode m_Md_ahead.2.1 61 = .ok (.iload_n 1, 1) := by decide +kernel
theorem d_Md_ahead_62 : decode m_Md_ahead.2.1 62 = .ok (.iconst (-1), 1) := by decide +kernel
theorem d_Md_ahead_63 : decode m_Md_ahead.2.1 63 = .ok (.if_icmp .ne 11, 3) := by decide +kernel
theorem d_Md_ahead_74 : decode m_Md_ahead.2.1 74 = .ok (.iload_n 1, 1) := by decide +kernel
theorem d_Md_ahead_75 : decode m_Md_ahead.2.1 75 = .ok (.invokestatic 166, 3) := by decide +kernel
abbrev m_Md_isSmall : aw_MI := (⟨"MaypoleGreenModel", "isSmall", "(I)Z"⟩, prog_14_method_22_code, 1, some .boolean)
theorem lk_Md_166 : Cond.methodLink "MaypoleGreenModel" 166 m_Md_isSmall.1 ∈ aw_T := aw_in 1483 (by decide +kernel) rfl
theorem k_Md_isSmall : aw_K m_Md_isSmall 1 := ⟨aw_in 1485 (by decide +kernel) rfl, aw_in 16 (by decide +kernel) rfl, ⟨by decide, by decide, by decide +kernel⟩, by decide, by decide +kernel⟩
theorem st_Md_isSmall : Cond.static m_Md_isSmall.1 ∈ aw_T := aw_in 1484 (by decide +kernel) rfl
theorem d_Md_ahead_78 : decode m_Md_ahead.2.1 78 = .ok (.ifCond .eq 38, 3) := by decide +kernel
theorem d_Md_ahead_116 : decode m_Md_ahead.2.1 116 = .ok (.iload_n 1, 1) := by decide +kernel
theorem d_Md_ahead_117 : decode m_Md_ahead.2.1 117 = .ok (.invokestatic 169, 3) := by decide +kernel
abbrev m_Md_isDigit : aw_MI := (⟨"MaypoleGreenModel", "isDigit", "(I)Z"⟩, prog_14_method_23_code, 1, some .boolean)
theorem lk_Md_169 : Cond.methodLink "MaypoleGreenModel" 169 m_Md_isDigit.1 ∈ aw_T := aw_in 1486 (by decide +kernel) rfl
theorem k_Md_isDigit : aw_K m_Md_isDigit 1 := ⟨aw_in 1488 (by decide +kernel) rfl, aw_in 16 (by decide +kernel) rfl, ⟨by decide, by decide, by decide +kernel⟩, by decide, by decide +kernel⟩
theorem st_Md_isDigit : Cond.static m_Md_isDigit.1 ∈ aw_T := aw_in 1487 (by decide +kernel) rfl
theorem d_Md_ahead_120 : decode m_Md_ahead.2.1 120 = .ok (.ifCond .eq 88, 3) := by decide +kernel
theorem d_Md_ahead_208 : decode m_Md_ahead.2.1 208 = .ok (.aload_n 0, 1) := by decide +kernel
theorem d_Md_ahead_209 : decode m_Md_ahead.2.1 209 = .ok (.dup, 1) := by decide +kernel
theorem d_Md_ahead_210 : decode m_Md_ahead.2.1 210 = .ok (.getfield 151, 3) := by decide +kernel
theorem d_Md_ahead_213 : decode m_Md_ahead.2.1 213 = .ok (.iconst 1, 1) := by decide +kernel
theorem d_Md_ahead_214 : decode m_Md_ahead.2.1 214 = .ok (.iadd, 1) := by decide +kernel
theorem d_Md_ahead_215 : decode m_Md_ahead.2.1 215 = .ok (.putfield 151, 3) := by decide +kernel
theorem d_Md_ahead_218 : decode m_Md_ahead.2.1 218 = .ok (.aload_n 0, 1) := by decide +kernel
theorem d_Md_ahead_219 : decode m_Md_ahead.2.1 219 = .ok (.iload_n 1, 1) := by decide +kernel
theorem d_Md_ahead_220 : decode m_Md_ahead.2.1 220 = .ok (.bipush 59, 2) := by decide +kernel
theorem d_Md_ahead_222 : decode m_Md_ahead.2.1 222 = .ok (.if_icmp .eq 21, 3) := by decide +kernel
theorem d_Md_ahead_243 : decode m_Md_ahead.2.1 243 = .ok (.iconst 4, 1) := by decide +kernel
theorem d_Md_ahead_244 : decode m_Md_ahead.2.1 244 = .ok (.goto 4, 3) := by decide +kernel
theorem d_Md_ahead_248 : decode m_Md_ahead.2.1 248 = .ok (.putfield 163, 3) := by decide +kernel
theorem d_Md_ahead_251 : decode m_Md_ahead.2.1 251 = .ok (.return_, 1) := by decide +kernel
theorem d_Md_ahead_225 : decode m_Md_ahead.2.1 225 = .ok (.iload_n 1, 1) := by decide +kernel
theorem d_Md_ahead_226 : decode m_Md_ahead.2.1 226 = .ok (.bipush 60, 2) := by decide +kernel
theorem d_Md_ahead_228 : decode m_Md_ahead.2.1 228 = .ok (.if_icmp .eq 15, 3) := by decide +kernel
theorem d_Md_ahead_231 : decode m_Md_ahead.2.1 231 = .ok (.iload_n 1, 1) := by decide +kernel
theorem d_Md_ahead_232 : decode m_Md_ahead.2.1 232 = .ok (.bipush 62, 2) := by decide +kernel
theorem d_Md_ahead_234 : decode m_Md_ahead.2.1 234 = .ok (.if_icmp .eq 9, 3) := by decide +kernel
theorem d_Md_ahead_237 : decode m_Md_ahead.2.1 237 = .ok (.iload_n 1, 1) := by decide +kernel
theorem d_Md_ahead_238 : decode m_Md_ahead.2.1 238 = .ok (.bipush 61, 2) := by decide +kernel
theorem d_Md_ahead_240 : decode m_Md_ahead.2.1 240 = .ok (.if_icmp .ne 7, 3) := by decide +kernel
theorem d_Md_ahead_247 : decode m_Md_ahead.2.1 247 = .ok (.iconst 1, 1) := by decide +kernel
theorem d_Md_ahead_123 : decode m_Md_ahead.2.1 123 = .ok (.aload_n 0, 1) := by decide +kernel
theorem d_Md_ahead_124 : decode m_Md_ahead.2.1 124 = .ok (.iconst 0, 1) := by decide +kernel
theorem d_Md_ahead_125 : decode m_Md_ahead.2.1 125 = .ok (.putfield 160, 3) := by decide +kernel
theorem d_Md_ahead_66 : decode m_Md_ahead.2.1 66 = .ok (.aload_n 0, 1) := by decide +kernel
theorem d_Md_ahead_67 : decode m_Md_ahead.2.1 67 = .ok (.iconst 0, 1) := by decide +kernel
theorem d_Md_ahead_68 : decode m_Md_ahead.2.1 68 = .ok (.putfield 163, 3) := by decide +kernel
theorem d_Md_ahead_71 : decode m_Md_ahead.2.1 71 = .ok (.goto 180, 3) := by decide +kernel
theorem d_Md_ahead_128 : decode m_Md_ahead.2.1 128 = .ok (.aload_n 0, 1) := by decide +kernel
theorem d_Md_ahead_129 : decode m_Md_ahead.2.1 129 = .ok (.aload_n 0, 1) := by decide +kernel
theorem d_Md_ahead_130 : decode m_Md_ahead.2.1 130 = .ok (.getfield 151, 3) := by decide +kernel
theorem d_Md_ahead_133 : decode m_Md_ahead.2.1 133 = .ok (.invokevirtual 154, 3) := by decide +kernel
theorem d_Md_ahead_136 : decode m_Md_ahead.2.1 136 = .ok (.invokestatic 169, 3) := by decide +kernel
theorem d_Md_ahead_139 : decode m_Md_ahead.2.1 139 = .ok (.ifCond .eq 44, 3) := by decide +kernel
theorem d_Md_ahead_183 : decode m_Md_ahead.2.1 183 = .ok (.aload_n 0, 1) := by decide +kernel
theorem d_Md_ahead_184 : decode m_Md_ahead.2.1 184 = .ok (.aload_n 0, 1) := by decide +kernel
theorem d_Md_ahead_185 : decode m_Md_ahead.2.1 185 = .ok (.getfield 151, 3) := by decide +kernel
theorem d_Md_ahead_188 : decode m_Md_ahead.2.1 188 = .ok (.aload_n 0, 1) := by decide +kernel
theorem d_Md_ahead_189 : decode m_Md_ahead.2.1 189 = .ok (.getfield 157, 3) := by decide +kernel
theorem d_Md_ahead_192 : decode m_Md_ahead.2.1 192 = .ok (.isub, 1) := by decide +kernel
theorem d_Md_ahead_193 : decode m_Md_ahead.2.1 193 = .ok (.iconst 4, 1) := by decide +kernel
theorem d_Md_ahead_194 : decode m_Md_ahead.2.1 194 = .ok (.if_icmp .le 7, 3) := by decide +kernel
theorem d_Md_ahead_201 : decode m_Md_ahead.2.1 201 = .ok (.iconst 3, 1) := by decide +kernel
theorem d_Md_ahead_202 : decode m_Md_ahead.2.1 202 = .ok (.putfield 163, 3) := by decide +kernel
theorem d_Md_ahead_205 : decode m_Md_ahead.2.1 205 = .ok (.goto 46, 3) := by decide +kernel
theorem d_Md_ahead_197 : decode m_Md_ahead.2.1 197 = .ok (.iconst 1, 1) := by decide +kernel
theorem d_Md_ahead_198 : decode m_Md_ahead.2.1 198 = .ok (.goto 4, 3) := by decide +kernel
theorem d_Md_ahead_142 : decode m_Md_ahead.2.1 142 = .ok (.aload_n 0, 1) := by decide +kernel
theorem d_Md_ahead_143 : decode m_Md_ahead.2.1 143 = .ok (.ldc 172, 2) := by decide +kernel
theorem cc_Md_172 : Cond.constant "MaypoleGreenModel" 172 (100000) ∈ aw_T := aw_in 1489 (by decide +kernel) rfl
theorem d_Md_ahead_145 : decode m_Md_ahead.2.1 145 = .ok (.bipush 10, 2) := by decide +kernel
theorem d_Md_ahead_147 : decode m_Md_ahead.2.1 147 = .ok (.aload_n 0, 1) := by decide +kernel
theorem d_Md_ahead_148 : decode m_Md_ahead.2.1 148 = .ok (.getfield 160, 3) := by decide +kernel
theorem d_Md_ahead_151 : decode m_Md_ahead.2.1 151 = .ok (.imul, 1) := by decide +kernel
theorem d_Md_ahead_152 : decode m_Md_ahead.2.1 152 = .ok (.aload_n 0, 1) := by decide +kernel
theorem d_Md_ahead_153 : decode m_Md_ahead.2.1 153 = .ok (.aload_n 0, 1) := by decide +kernel
theorem d_Md_ahead_154 : decode m_Md_ahead.2.1 154 = .ok (.getfield 151, 3) := by decide +kernel
theorem d_Md_ahead_157 : decode m_Md_ahead.2.1 157 = .ok (.invokevirtual 154, 3) := by decide +kernel
theorem d_Md_ahead_160 : decode m_Md_ahead.2.1 160 = .ok (.iadd, 1) := by decide +kernel
theorem d_Md_ahead_161 : decode m_Md_ahead.2.1 161 = .ok (.bipush 48, 2) := by decide +kernel
theorem d_Md_ahead_163 : decode m_Md_ahead.2.1 163 = .ok (.isub, 1) := by decide +kernel
theorem d_Md_ahead_164 : decode m_Md_ahead.2.1 164 = .ok (.invokestatic 173, 3) := by decide +kernel
theorem lk_Md_173 : Cond.methodLink "MaypoleGreenModel" 173 m_Ma_min.1 ∈ aw_T := aw_in 1490 (by decide +kernel) rfl
theorem d_Md_ahead_167 : decode m_Md_ahead.2.1 167 = .ok (.putfield 160, 3) := by decide +kernel
theorem d_Md_ahead_170 : decode m_Md_ahead.2.1 170 = .ok (.aload_n 0, 1) := by decide +kernel
theorem d_Md_ahead_171 : decode m_Md_ahead.2.1 171 = .ok (.dup, 1) := by decide +kernel
theorem d_Md_ahead_172 : decode m_Md_ahead.2.1 172 = .ok (.getfield 151, 3) := by decide +kernel
theorem d_Md_ahead_175 : decode m_Md_ahead.2.1 175 = .ok (.iconst 1, 1) := by decide +kernel
theorem d_Md_ahead_176 : decode m_Md_ahead.2.1 176 = .ok (.iadd, 1) := by decide +kernel
theorem d_Md_ahead_177 : decode m_Md_ahead.2.1 177 = .ok (.putfield 151, 3) := by decide +kernel
theorem d_Md_ahead_180 : decode m_Md_ahead.2.1 180 = .ok (.goto (-52), 3) := by decide +kernel
theorem d_Md_ahead_81 : decode m_Md_ahead.2.1 81 = .ok (.aload_n 0, 1) := by decide +kernel
theorem d_Md_ahead_82 : decode m_Md_ahead.2.1 82 = .ok (.aload_n 0, 1) := by decide +kernel
theorem d_Md_ahead_83 : decode m_Md_ahead.2.1 83 = .ok (.getfield 151, 3) := by decide +kernel
theorem d_Md_ahead_86 : decode m_Md_ahead.2.1 86 = .ok (.invokevirtual 154, 3) := by decide +kernel
theorem d_Md_ahead_89 : decode m_Md_ahead.2.1 89 = .ok (.invokestatic 166, 3) := by decide +kernel
theorem d_Md_ahead_92 : decode m_Md_ahead.2.1 92 = .ok (.ifCond .eq 16, 3) := by decide +kernel
theorem d_Md_ahead_108 : decode m_Md_ahead.2.1 108 = .ok (.aload_n 0, 1) := by decide +kernel
theorem d_Md_ahead_109 : decode m_Md_ahead.2.1 109 = .ok (.iconst 2, 1) := by decide +kernel
theorem d_Md_ahead_110 : decode m_Md_ahead.2.1 110 = .ok (.putfield 163, 3) := by decide +kernel
theorem d_Md_ahead_113 : decode m_Md_ahead.2.1 113 = .ok (.goto 138, 3) := by decide +kernel
theorem d_Md_ahead_95 : decode m_Md_ahead.2.1 95 = .ok (.aload_n 0, 1) := by decide +kernel
theorem d_Md_ahead_96 : decode m_Md_ahead.2.1 96 = .ok (.dup, 1) := by decide +kernel
theorem d_Md_ahead_97 : decode m_Md_ahead.2.1 97 = .ok (.getfield 151, 3) := by decide +kernel
theorem d_Md_ahead_100 : decode m_Md_ahead.2.1 100 = .ok (.iconst 1, 1) := by decide +kernel
theorem d_Md_ahead_101 : decode m_Md_ahead.2.1 101 = .ok (.iadd, 1) := by decide +kernel
theorem d_Md_ahead_102 : decode m_Md_ahead.2.1 102 = .ok (.putfield 151, 3) := by decide +kernel
theorem d_Md_ahead_105 : decode m_Md_ahead.2.1 105 = .ok (.goto (-24), 3) := by decide +kernel
theorem d_Md_byteAt_0 : decode m_Md_byteAt.2.1 0 = .ok (.iload_n 1, 1) := by decide +kernel
theorem d_Md_byteAt_1 : decode m_Md_byteAt.2.1 1 = .ok (.aload_n 0, 1) := by decide +kernel
theorem d_Md_byteAt_2 : decode m_Md_byteAt.2.1 2 = .ok (.getfield 148, 3) := by decide +kernel
theorem d_Md_byteAt_5 : decode m_Md_byteAt.2.1 5 = .ok (.if_icmp .ge 16, 3) := by decide +kernel
theorem d_Md_byteAt_21 : decode m_Md_byteAt.2.1 21 = .ok (.iconst (-1), 1) := by decide +kernel
theorem d_Md_byteAt_22 : decode m_Md_byteAt.2.1 22 = .ok (.ireturn, 1) := by decide +kernel
theorem d_Md_byteAt_8 : decode m_Md_byteAt.2.1 8 = .ok (.aload_n 0, 1) := by decide +kernel
theorem d_Md_byteAt_9 : decode m_Md_byteAt.2.1 9 = .ok (.getfield 34, 3) := by decide +kernel
theorem d_Md_byteAt_12 : decode m_Md_byteAt.2.1 12 = .ok (.iload_n 1, 1) := by decide +kernel
theorem d_Md_byteAt_13 : decode m_Md_byteAt.2.1 13 = .ok (.baload, 1) := by decide +kernel
theorem d_Md_byteAt_14 : decode m_Md_byteAt.2.1 14 = .ok (.sipush 255, 3) := by decide +kernel
theorem d_Md_byteAt_17 : decode m_Md_byteAt.2.1 17 = .ok (.iand, 1) := by decide +kernel
theorem d_Md_byteAt_18 : decode m_Md_byteAt.2.1 18 = .ok (.goto 4, 3) := by decide +kernel
theorem d_Md_isSmall_0 : decode m_Md_isSmall.2.1 0 = .ok (.iload_n 0, 1) := by decide +kernel
theorem d_Md_isSmall_1 : decode m_Md_isSmall.2.1 1 = .ok (.bipush 97, 2) := by decide +kernel
theorem d_Md_isSmall_3 : decode m_Md_isSmall.2.1 3 = .ok (.if_icmp .lt 13, 3) := by decide +kernel
theorem d_Md_isSmall_16 : decode m_Md_isSmall.2.1 16 = .ok (.iconst 0, 1) := by decide +kernel
theorem d_Md_isSmall_17 : decode m_Md_isSmall.2.1 17 = .ok (.ireturn, 1) := by decide +kernel
theorem d_Md_isSmall_6 : decode m_Md_isSmall.2.1 6 = .ok (.iload_n 0, 1) := by decide +kernel
theorem d_Md_isSmall_7 : decode m_Md_isSmall.2.1 7 = .ok (.bipush 122, 2) := by decide +kernel
theorem d_Md_isSmall_9 : decode m_Md_isSmall.2.1 9 = .ok (.if_icmp .gt 7, 3) := by decide +kernel
theorem d_Md_isSmall_12 : decode m_Md_isSmall.2.1 12 = .ok (.iconst 1, 1) := by decide +kernel
theorem d_Md_isSmall_13 : decode m_Md_isSmall.2.1 13 = .ok (.goto 4, 3) := by decide +kernel
theorem d_Md_isDigit_0 : decode m_Md_isDigit.2.1 0 = .ok (.iload_n 0, 1) := by decide +kernel
theorem d_Md_isDigit_1 : decode m_Md_isDigit.2.1 1 = .ok (.bipush 48, 2) := by decide +kernel
theorem d_Md_isDigit_3 : decode m_Md_isDigit.2.1 3 = .ok (.if_icmp .lt 13, 3) := by decide +kernel
theorem d_Md_isDigit_16 : decode m_Md_isDigit.2.1 16 = .ok (.iconst 0, 1) := by decide +kernel
theorem d_Md_isDigit_17 : decode m_Md_isDigit.2.1 17 = .ok (.ireturn, 1) := by decide +kernel
theorem d_Md_isDigit_6 : decode m_Md_isDigit.2.1 6 = .ok (.iload_n 0, 1) := by decide +kernel
theorem d_Md_isDigit_7 : decode m_Md_isDigit.2.1 7 = .ok (.bipush 57, 2) := by decide +kernel
theorem d_Md_isDigit_9 : decode m_Md_isDigit.2.1 9 = .ok (.if_icmp .gt 7, 3) := by decide +kernel
theorem d_Md_isDigit_12 : decode m_Md_isDigit.2.1 12 = .ok (.iconst 1, 1) := by decide +kernel
theorem d_Md_isDigit_13 : decode m_Md_isDigit.2.1 13 = .ok (.goto 4, 3) := by decide +kernel
theorem d_Md_refuse_0 : decode m_Md_refuse.2.1 0 = .ok (.aload_n 0, 1) := by decide +kernel
theorem d_Md_refuse_1 : decode m_Md_refuse.2.1 1 = .ok (.iload_n 1, 1) := by decide +kernel
theorem d_Md_refuse_2 : decode m_Md_refuse.2.1 2 = .ok (.putfield 112, 3) := by decide +kernel
theorem d_Md_refuse_5 : decode m_Md_refuse.2.1 5 = .ok (.iconst (-1), 1) := by decide +kernel
theorem d_Md_refuse_6 : decode m_Md_refuse.2.1 6 = .ok (.ireturn, 1) := by decide +kernel
theorem d_Md_greenPart_0 : decode m_Md_greenPart.2.1 0 = .ok (.aload_n 0, 1) := by decide +kernel
theorem d_Md_greenPart_1 : decode m_Md_greenPart.2.1 1 = .ok (.ldc 244, 2) := by decide +kernel
theorem d_Md_greenPart_3 : decode m_Md_greenPart.2.1 3 = .ok (.invokevirtual 203, 3) := by decide +kernel
abbrev m_Md_inWords : aw_MI := (⟨"MaypoleGreenModel", "inWords", "(Ljava/lang/String;)I"⟩, prog_14_method_26_code, 7, some .int)
theorem lk_Md_203 : Cond.methodLink "MaypoleGreenModel" 203 m_Md_inWords.1 ∈ aw_T := aw_in 1500 (by decide +kernel) rfl
theorem k_Md_inWords : aw_K m_Md_inWords 1 := ⟨aw_in 1503 (by decide +kernel) rfl, aw_in 16 (by decide +kernel) rfl, ⟨by decide, by decide, by decide +kernel⟩, by decide, by decide +kernel⟩
theorem in_Md_inWords : Cond.instanceMethod m_Md_inWords.1 ∈ aw_T := aw_in 1502 (by decide +kernel) rfl
theorem se_Md_inWords : Cond.selects m_Md_inWords.1.cls m_Md_inWords.1 m_Md_inWords.1 ∈ aw_T := aw_inP 64 (by decide +kernel) rfl
theorem d_Md_greenPart_6 : decode m_Md_greenPart.2.1 6 = .ok (.istore_n 1, 1) := by decide +kernel
theorem d_Md_greenPart_7 : decode m_Md_greenPart.2.1 7 = .ok (.iload_n 1, 1) := by decide +kernel
theorem d_Md_greenPart_8 : decode m_Md_greenPart.2.1 8 = .ok (.ifCond .lt 8, 3) := by decide +kernel
theorem d_Md_greenPart_16 : decode m_Md_greenPart.2.1 16 = .ok (.aload_n 0, 1) := by decide +kernel
theorem d_Md_greenPart_17 : decode m_Md_greenPart.2.1 17 = .ok (.iconst 2, 1) := by decide +kernel
theorem d_Md_greenPart_18 : decode m_Md_greenPart.2.1 18 = .ok (.invokevirtual 200, 3) := by decide +kernel
abbrev m_Md_fails : aw_MI := (⟨"MaypoleGreenModel", "fails", "(I)Z"⟩, prog_14_method_27_code, 2, some .boolean)
theorem lk_Md_200 : Cond.methodLink "MaypoleGreenModel" 200 m_Md_fails.1 ∈ aw_T := aw_in 1506 (by decide +kernel) rfl
theorem k_Md_fails : aw_K m_Md_fails 1 := ⟨aw_in 1509 (by decide +kernel) rfl, aw_in 16 (by decide +kernel) rfl, ⟨by decide, by decide, by decide +kernel⟩, by decide, by decide +kernel⟩
theorem in_Md_fails : Cond.instanceMethod m_Md_fails.1 ∈ aw_T := aw_in 1508 (by decide +kernel) rfl
theorem se_Md_fails : Cond.selects m_Md_fails.1.cls m_Md_fails.1 m_Md_fails.1 ∈ aw_T := aw_inP 65 (by decide +kernel) rfl
theorem d_Md_greenPart_21 : decode m_Md_greenPart.2.1 21 = .ok (.ireturn, 1) := by decide +kernel
theorem d_Md_greenPart_11 : decode m_Md_greenPart.2.1 11 = .ok (.iload_n 1, 1) := by decide +kernel
theorem d_Md_greenPart_12 : decode m_Md_greenPart.2.1 12 = .ok (.iconst 3, 1) := by decide +kernel
theorem d_Md_greenPart_13 : decode m_Md_greenPart.2.1 13 = .ok (.if_icmp .le 9, 3) := by decide +kernel
theorem d_Md_greenPart_22 : decode m_Md_greenPart.2.1 22 = .ok (.iload_n 1, 1) := by decide +kernel
theorem d_Md_greenPart_23 : decode m_Md_greenPart.2.1 23 = .ok (.iconst 1, 1) := by decide +kernel
theorem d_Md_greenPart_24 : decode m_Md_greenPart.2.1 24 = .ok (.if_icmp .gt 15, 3) := by decide +kernel
theorem d_Md_greenPart_39 : decode m_Md_greenPart.2.1 39 = .ok (.iload_n 1, 1) := by decide +kernel
theorem d_Md_greenPart_40 : decode m_Md_greenPart.2.1 40 = .ok (.iconst 1, 1) := by decide +kernel
theorem d_Md_greenPart_41 : decode m_Md_greenPart.2.1 41 = .ok (.if_icmp .ne 21, 3) := by decide +kernel
theorem d_Md_greenPart_44 : decode m_Md_greenPart.2.1 44 = .ok (.aload_n 0, 1) := by decide +kernel
theorem d_Md_greenPart_45 : decode m_Md_greenPart.2.1 45 = .ok (.aload_n 0, 1) := by decide +kernel
theorem d_Md_greenPart_46 : decode m_Md_greenPart.2.1 46 = .ok (.getfield 238, 3) := by decide +kernel
theorem d_Md_greenPart_49 : decode m_Md_greenPart.2.1 49 = .ok (.iconst 3, 1) := by decide +kernel
theorem d_Md_greenPart_50 : decode m_Md_greenPart.2.1 50 = .ok (.invokevirtual 241, 3) := by decide +kernel
abbrev m_Md_isIn : aw_MI := (⟨"MaypoleGreenModel", "isIn", "(II)Z"⟩, prog_14_method_46_code, 3, some .boolean)
theorem lk_Md_241 : Cond.methodLink "MaypoleGreenModel" 241 m_Md_isIn.1 ∈ aw_T := aw_in 1510 (by decide +kernel) rfl
theorem k_Md_isIn : aw_K m_Md_isIn 2 := ⟨aw_in 1513 (by decide +kernel) rfl, aw_in 16 (by decide +kernel) rfl, ⟨by decide, by decide, by decide +kernel⟩, by decide, by decide +kernel⟩
theorem in_Md_isIn : Cond.instanceMethod m_Md_isIn.1 ∈ aw_T := aw_in 1512 (by decide +kernel) rfl
theorem se_Md_isIn : Cond.selects m_Md_isIn.1.cls m_Md_isIn.1 m_Md_isIn.1 ∈ aw_T := aw_inP 66 (by decide +kernel) rfl
theorem d_Md_greenPart_53 : decode m_Md_greenPart.2.1 53 = .ok (.ifCond .eq 9, 3) := by decide +kernel
theorem d_Md_greenPart_56 : decode m_Md_greenPart.2.1 56 = .ok (.aload_n 0, 1) := by decide +kernel
theorem d_Md_greenPart_57 : decode m_Md_greenPart.2.1 57 = .ok (.iconst 5, 1) := by decide +kernel
theorem d_Md_greenPart_58 : decode m_Md_greenPart.2.1 58 = .ok (.invokevirtual 200, 3) := by decide +kernel
theorem d_Md_greenPart_61 : decode m_Md_greenPart.2.1 61 = .ok (.ireturn, 1) := by decide +kernel
theorem d_Md_greenPart_27 : decode m_Md_greenPart.2.1 27 = .ok (.aload_n 0, 1) := by decide +kernel
theorem d_Md_greenPart_28 : decode m_Md_greenPart.2.1 28 = .ok (.aload_n 0, 1) := by decide +kernel
theorem d_Md_greenPart_29 : decode m_Md_greenPart.2.1 29 = .ok (.getfield 238, 3) := by decide +kernel
theorem d_Md_greenPart_32 : decode m_Md_greenPart.2.1 32 = .ok (.iload_n 1, 1) := by decide +kernel
theorem d_Md_greenPart_33 : decode m_Md_greenPart.2.1 33 = .ok (.invokevirtual 241, 3) := by decide +kernel
theorem d_Md_greenPart_36 : decode m_Md_greenPart.2.1 36 = .ok (.ifCond .ne 20, 3) := by decide +kernel
theorem d_Md_greenPart_62 : decode m_Md_greenPart.2.1 62 = .ok (.iload_n 1, 1) := by decide +kernel
theorem d_Md_greenPart_63 : decode m_Md_greenPart.2.1 63 = .ok (.iconst 2, 1) := by decide +kernel
theorem d_Md_greenPart_64 : decode m_Md_greenPart.2.1 64 = .ok (.if_icmp .ne 25, 3) := by decide +kernel
theorem d_Md_greenPart_89 : decode m_Md_greenPart.2.1 89 = .ok (.aload_n 0, 1) := by decide +kernel
theorem d_Md_greenPart_90 : decode m_Md_greenPart.2.1 90 = .ok (.dup, 1) := by decide +kernel
theorem d_Md_greenPart_91 : decode m_Md_greenPart.2.1 91 = .ok (.getfield 238, 3) := by decide +kernel
theorem d_Md_greenPart_94 : decode m_Md_greenPart.2.1 94 = .ok (.iconst 1, 1) := by decide +kernel
theorem d_Md_greenPart_95 : decode m_Md_greenPart.2.1 95 = .ok (.iload_n 1, 1) := by decide +kernel
theorem d_Md_greenPart_96 : decode m_Md_greenPart.2.1 96 = .ok (.ishl, 1) := by decide +kernel
theorem d_Md_greenPart_97 : decode m_Md_greenPart.2.1 97 = .ok (.ior, 1) := by decide +kernel
theorem d_Md_greenPart_98 : decode m_Md_greenPart.2.1 98 = .ok (.putfield 238, 3) := by decide +kernel
theorem d_Md_greenPart_101 : decode m_Md_greenPart.2.1 101 = .ok (.iload_n 1, 1) := by decide +kernel
theorem d_Md_greenPart_102 : decode m_Md_greenPart.2.1 102 = .ok (.iconst 3, 1) := by decide +kernel
theorem d_Md_greenPart_103 : decode m_Md_greenPart.2.1 103 = .ok (.if_icmp .ne 25, 3) := by decide +kernel
theorem d_Md_greenPart_128 : decode m_Md_greenPart.2.1 128 = .ok (.aload_n 0, 1) := by decide +kernel
theorem d_Md_greenPart_129 : decode m_Md_greenPart.2.1 129 = .ok (.invokevirtual 194, 3) := by decide +kernel
theorem d_Md_greenPart_132 : decode m_Md_greenPart.2.1 132 = .ok (.iload_n 1, 1) := by decide +kernel
theorem d_Md_greenPart_133 : decode m_Md_greenPart.2.1 133 = .ok (.ifCond .ne 16, 3) := by decide +kernel
theorem d_Md_greenPart_149 : decode m_Md_greenPart.2.1 149 = .ok (.aload_n 0, 1) := by decide +kernel
theorem d_Md_greenPart_150 : decode m_Md_greenPart.2.1 150 = .ok (.sipush 2210, 3) := by decide +kernel
theorem d_Md_greenPart_153 : decode m_Md_greenPart.2.1 153 = .ok (.iconst 1, 1) := by decide +kernel
theorem d_Md_greenPart_154 : decode m_Md_greenPart.2.1 154 = .ok (.bipush 40, 2) := by decide +kernel
theorem d_Md_greenPart_156 : decode m_Md_greenPart.2.1 156 = .ok (.invokevirtual 257, 3) := by decide +kernel
abbrev m_Md_number : aw_MI := (⟨"MaypoleGreenModel", "number", "(III)Z"⟩, prog_14_method_31_code, 4, some .boolean)
theorem lk_Md_257 : Cond.methodLink "MaypoleGreenModel" 257 m_Md_number.1 ∈ aw_T := aw_in 1534 (by decide +kernel) rfl
theorem k_Md_number : aw_K m_Md_number 3 := ⟨aw_in 1537 (by decide +kernel) rfl, aw_in 16 (by decide +kernel) rfl, ⟨by decide, by decide, by decide +kernel⟩, by decide, by decide +kernel⟩
theorem in_Md_number : Cond.instanceMethod m_Md_number.1 ∈ aw_T := aw_in 1536 (by decide +kernel) rfl
theorem se_Md_number : Cond.selects m_Md_number.1.cls m_Md_number.1 m_Md_number.1 ∈ aw_T := aw_inP 72 (by decide +kernel) rfl
theorem d_Md_greenPart_159 : decode m_Md_greenPart.2.1 159 = .ok (.istore_n 2, 1) := by decide +kernel
theorem d_Md_greenPart_160 : decode m_Md_greenPart.2.1 160 = .ok (.iload_n 2, 1) := by decide +kernel
theorem d_Md_greenPart_161 : decode m_Md_greenPart.2.1 161 = .ok (.ifCond .eq 16, 3) := by decide +kernel
theorem d_Md_greenPart_177 : decode m_Md_greenPart.2.1 177 = .ok (.iconst 0, 1) := by decide +kernel
theorem d_Md_greenPart_178 : decode m_Md_greenPart.2.1 178 = .ok (.ireturn, 1) := by decide +kernel
theorem d_Md_greenPart_164 : decode m_Md_greenPart.2.1 164 = .ok (.aload_n 0, 1) := by decide +kernel
theorem d_Md_greenPart_165 : decode m_Md_greenPart.2.1 165 = .ok (.bipush 59, 2) := by decide +kernel
theorem d_Md_greenPart_167 : decode m_Md_greenPart.2.1 167 = .ok (.invokevirtual 277, 3) := by decide +kernel
abbrev m_Md_wantSign : aw_MI := (⟨"MaypoleGreenModel", "wantSign", "(I)Z"⟩, prog_14_method_29_code, 2, some .boolean)
theorem lk_Md_277 : Cond.methodLink "MaypoleGreenModel" 277 m_Md_wantSign.1 ∈ aw_T := aw_in 1538 (by decide +kernel) rfl
theorem k_Md_wantSign : aw_K m_Md_wantSign 1 := ⟨aw_in 1541 (by decide +kernel) rfl, aw_in 16 (by decide +kernel) rfl, ⟨by decide, by decide, by decide +kernel⟩, by decide, by decide +kernel⟩
theorem in_Md_wantSign : Cond.instanceMethod m_Md_wantSign.1 ∈ aw_T := aw_in 1540 (by decide +kernel) rfl
theorem se_Md_wantSign : Cond.selects m_Md_wantSign.1.cls m_Md_wantSign.1 m_Md_wantSign.1 ∈ aw_T := aw_inP 73 (by decide +kernel) rfl
theorem d_Md_greenPart_170 : decode m_Md_greenPart.2.1 170 = .ok (.ifCond .eq 7, 3) := by decide +kernel
theorem d_Md_greenPart_173 : decode m_Md_greenPart.2.1 173 = .ok (.iconst 1, 1) := by decide +kernel
theorem d_Md_greenPart_174 : decode m_Md_greenPart.2.1 174 = .ok (.goto 4, 3) := by decide +kernel
theorem d_Md_greenPart_136 : decode m_Md_greenPart.2.1 136 = .ok (.aload_n 0, 1) := by decide +kernel
theorem d_Md_greenPart_137 : decode m_Md_greenPart.2.1 137 = .ok (.sipush 2209, 3) := by decide +kernel
theorem d_Md_greenPart_140 : decode m_Md_greenPart.2.1 140 = .ok (.iconst 0, 1) := by decide +kernel
theorem d_Md_greenPart_141 : decode m_Md_greenPart.2.1 141 = .ok (.bipush 16, 2) := by decide +kernel
theorem d_Md_greenPart_143 : decode m_Md_greenPart.2.1 143 = .ok (.invokevirtual 257, 3) := by decide +kernel
theorem d_Md_greenPart_146 : decode m_Md_greenPart.2.1 146 = .ok (.goto 13, 3) := by decide +kernel
theorem d_Md_greenPart_106 : decode m_Md_greenPart.2.1 106 = .ok (.aload_n 0, 1) := by decide +kernel
theorem d_Md_greenPart_107 : decode m_Md_greenPart.2.1 107 = .ok (.invokevirtual 280, 3) := by decide +kernel
abbrev m_Md_aPass : aw_MI := (⟨"MaypoleGreenModel", "aPass", "()Z"⟩, prog_14_method_50_code, 2, some .boolean)
theorem lk_Md_280 : Cond.methodLink "MaypoleGreenModel" 280 m_Md_aPass.1 ∈ aw_T := aw_in 1546 (by decide +kernel) rfl
theorem k_Md_aPass : aw_K m_Md_aPass 0 := ⟨aw_in 1549 (by decide +kernel) rfl, aw_in 16 (by decide +kernel) rfl, ⟨by decide, by decide, by decide +kernel⟩, by decide, by decide +kernel⟩
theorem in_Md_aPass : Cond.instanceMethod m_Md_aPass.1 ∈ aw_T := aw_in 1548 (by decide +kernel) rfl
theorem se_Md_aPass : Cond.selects m_Md_aPass.1.cls m_Md_aPass.1 m_Md_aPass.1 ∈ aw_T := aw_inP 75 (by decide +kernel) rfl
theorem d_Md_greenPart_110 : decode m_Md_greenPart.2.1 110 = .ok (.ifCond .eq 16, 3) := by decide +kernel
theorem d_Md_greenPart_126 : decode m_Md_greenPart.2.1 126 = .ok (.iconst 0, 1) := by decide +kernel
theorem d_Md_greenPart_127 : decode m_Md_greenPart.2.1 127 = .ok (.ireturn, 1) := by decide +kernel
theorem d_Md_greenPart_113 : decode m_Md_greenPart.2.1 113 = .ok (.aload_n 0, 1) := by decide +kernel
theorem d_Md_greenPart_114 : decode m_Md_greenPart.2.1 114 = .ok (.bipush 59, 2) := by decide +kernel
theorem d_Md_greenPart_116 : decode m_Md_greenPart.2.1 116 = .ok (.invokevirtual 277, 3) := by decide +kernel
theorem d_Md_greenPart_119 : decode m_Md_greenPart.2.1 119 = .ok (.ifCond .eq 7, 3) := by decide +kernel
theorem d_Md_greenPart_122 : decode m_Md_greenPart.2.1 122 = .ok (.iconst 1, 1) := by decide +kernel
theorem d_Md_greenPart_123 : decode m_Md_greenPart.2.1 123 = .ok (.goto 4, 3) := by decide +kernel
theorem d_Md_greenPart_67 : decode m_Md_greenPart.2.1 67 = .ok (.aload_n 0, 1) := by decide +kernel
theorem d_Md_greenPart_68 : decode m_Md_greenPart.2.1 68 = .ok (.invokevirtual 273, 3) := by decide +kernel
abbrev m_Md_aDancer : aw_MI := (⟨"MaypoleGreenModel", "aDancer", "()Z"⟩, prog_14_method_47_code, 2, some .boolean)
theorem lk_Md_273 : Cond.methodLink "MaypoleGreenModel" 273 m_Md_aDancer.1 ∈ aw_T := aw_in 1514 (by decide +kernel) rfl
theorem k_Md_aDancer : aw_K m_Md_aDancer 0 := ⟨aw_in 1517 (by decide +kernel) rfl, aw_in 16 (by decide +kernel) rfl, ⟨by decide, by decide, by decide +kernel⟩, by decide, by decide +kernel⟩
theorem in_Md_aDancer : Cond.instanceMethod m_Md_aDancer.1 ∈ aw_T := aw_in 1516 (by decide +kernel) rfl
theorem se_Md_aDancer : Cond.selects m_Md_aDancer.1.cls m_Md_aDancer.1 m_Md_aDancer.1 ∈ aw_T := aw_inP 67 (by decide +kernel) rfl
theorem d_Md_greenPart_71 : decode m_Md_greenPart.2.1 71 = .ok (.ifCond .eq 16, 3) := by decide +kernel
theorem d_Md_greenPart_87 : decode m_Md_greenPart.2.1 87 = .ok (.iconst 0, 1) := by decide +kernel
theorem d_Md_greenPart_88 : decode m_Md_greenPart.2.1 88 = .ok (.ireturn, 1) := by decide +kernel
theorem d_Md_greenPart_74 : decode m_Md_greenPart.2.1 74 = .ok (.aload_n 0, 1) := by decide +kernel
theorem d_Md_greenPart_75 : decode m_Md_greenPart.2.1 75 = .ok (.bipush 59, 2) := by decide +kernel
theorem d_Md_greenPart_77 : decode m_Md_greenPart.2.1 77 = .ok (.invokevirtual 277, 3) := by decide +kernel
theorem d_Md_greenPart_80 : decode m_Md_greenPart.2.1 80 = .ok (.ifCond .eq 7, 3) := by decide +kernel
theorem d_Md_greenPart_83 : decode m_Md_greenPart.2.1 83 = .ok (.iconst 1, 1) := by decide +kernel
theorem d_Md_greenPart_84 : decode m_Md_greenPart.2.1 84 = .ok (.goto 4, 3) := by decide +kernel
theorem d_Md_inWords_0 : decode m_Md_inWords.2.1 0 = .ok (.aload_n 0, 1) := by decide +kernel
theorem d_Md_inWords_1 : decode m_Md_inWords.2.1 1 = .ok (.getfield 163, 3) := by decide +kernel
theorem d_Md_inWords_4 : decode m_Md_inWords.2.1 4 = .ok (.iconst 2, 1) := by decide +kernel
theorem d_Md_inWords_5 : decode m_Md_inWords.2.1 5 = .ok (.if_icmp .eq 5, 3) := by decide +kernel
theorem d_Md_inWords_10 : decode m_Md_inWords.2.1 10 = .ok (.iconst 0, 1) := by decide +kernel
theorem d_Md_inWords_11 : decode m_Md_inWords.2.1 11 = .ok (.istore_n 2, 1) := by decide +kernel
theorem d_Md_inWords_12 : decode m_Md_inWords.2.1 12 = .ok (.iconst 1, 1) := by decide +kernel
theorem d_Md_inWords_13 : decode m_Md_inWords.2.1 13 = .ok (.istore_n 3, 1) := by decide +kernel
theorem d_Md_inWords_8 : decode m_Md_inWords.2.1 8 = .ok (.iconst (-1), 1) := by decide +kernel
theorem d_Md_inWords_9 : decode m_Md_inWords.2.1 9 = .ok (.ireturn, 1) := by decide +kernel
theorem d_Md_inWords_14 : decode m_Md_inWords.2.1 14 = .ok (.iload_n 3, 1) := by decide +kernel
theorem d_Md_inWords_15 : decode m_Md_inWords.2.1 15 = .ok (.aload_n 1, 1) := by decide +kernel
theorem d_Md_inWords_16 : decode m_Md_inWords.2.1 16 = .ok (.invokevirtual 178, 3) := by decide +kernel
theorem lk_Md_178 : Cond.methodLink "MaypoleGreenModel" 178 m_St_length.1 ∈ aw_T := aw_in 1504 (by decide +kernel) rfl
theorem in_St_length : Cond.instanceMethod m_St_length.1 ∈ aw_T := aw_in 201 (by decide +kernel) rfl
theorem se_St_length : Cond.selects m_St_length.1.cls m_St_length.1 m_St_length.1 ∈ aw_T := aw_in 202 (by decide +kernel) rfl
theorem d_Md_inWords_19 : decode m_Md_inWords.2.1 19 = .ok (.if_icmp .ge 114, 3) := by decide +kernel
theorem d_Md_inWords_133 : decode m_Md_inWords.2.1 133 = .ok (.iconst (-1), 1) := by decide +kernel
theorem d_Md_inWords_134 : decode m_Md_inWords.2.1 134 = .ok (.ireturn, 1) := by decide +kernel
theorem d_Md_inWords_22 : decode m_Md_inWords.2.1 22 = .ok (.iload_n 3, 1) := by decide +kernel
theorem d_Md_inWords_23 : decode m_Md_inWords.2.1 23 = .ok (.istore 4, 2) := by decide +kernel
theorem d_Md_inWords_25 : decode m_Md_inWords.2.1 25 = .ok (.aload_n 1, 1) := by decide +kernel
theorem d_Md_inWords_26 : decode m_Md_inWords.2.1 26 = .ok (.iload 4, 2) := by decide +kernel
theorem d_Md_inWords_28 : decode m_Md_inWords.2.1 28 = .ok (.invokevirtual 184, 3) := by decide +kernel
theorem lk_Md_184 : Cond.methodLink "MaypoleGreenModel" 184 m_St_charAt.1 ∈ aw_T := aw_in 1505 (by decide +kernel) rfl
theorem in_St_charAt : Cond.instanceMethod m_St_charAt.1 ∈ aw_T := aw_in 211 (by decide +kernel) rfl
theorem se_St_charAt : Cond.selects m_St_charAt.1.cls m_St_charAt.1 m_St_charAt.1 ∈ aw_T := aw_in 212 (by decide +kernel) rfl
theorem d_Md_inWords_31 : decode m_Md_inWords.2.1 31 = .ok (.bipush 32, 2) := by decide +kernel
theorem d_Md_inWords_33 : decode m_Md_inWords.2.1 33 = .ok (.if_icmp .eq 9, 3) := by decide +kernel
theorem d_Md_inWords_42 : decode m_Md_inWords.2.1 42 = .ok (.iload 4, 2) := by decide +kernel
theorem d_Md_inWords_44 : decode m_Md_inWords.2.1 44 = .ok (.iload_n 3, 1) := by decide +kernel
theorem d_Md_inWords_45 : decode m_Md_inWords.2.1 45 = .ok (.isub, 1) := by decide +kernel
theorem d_Md_inWords_46 : decode m_Md_inWords.2.1 46 = .ok (.aload_n 0, 1) := by decide +kernel
theorem d_Md_inWords_47 : decode m_Md_inWords.2.1 47 = .ok (.getfield 151, 3) := by decide +kernel
theorem d_Md_inWords_50 : decode m_Md_inWords.2.1 50 = .ok (.aload_n 0, 1) := by decide +kernel
theorem d_Md_inWords_51 : decode m_Md_inWords.2.1 51 = .ok (.getfield 157, 3) := by decide +kernel
theorem d_Md_inWords_54 : decode m_Md_inWords.2.1 54 = .ok (.isub, 1) := by decide +kernel
theorem d_Md_inWords_55 : decode m_Md_inWords.2.1 55 = .ok (.if_icmp .ne 7, 3) := by decide +kernel
theorem d_Md_inWords_62 : decode m_Md_inWords.2.1 62 = .ok (.iconst 0, 1) := by decide +kernel
theorem d_Md_inWords_63 : decode m_Md_inWords.2.1 63 = .ok (.istore 5, 2) := by decide +kernel
theorem d_Md_inWords_65 : decode m_Md_inWords.2.1 65 = .ok (.iload_n 3, 1) := by decide +kernel
theorem d_Md_inWords_66 : decode m_Md_inWords.2.1 66 = .ok (.istore 6, 2) := by decide +kernel
theorem d_Md_inWords_58 : decode m_Md_inWords.2.1 58 = .ok (.iconst 1, 1) := by decide +kernel
theorem d_Md_inWords_59 : decode m_Md_inWords.2.1 59 = .ok (.goto 4, 3) := by decide +kernel
theorem d_Md_inWords_36 : decode m_Md_inWords.2.1 36 = .ok (.iinc 4 1, 3) := by decide +kernel
theorem d_Md_inWords_39 : decode m_Md_inWords.2.1 39 = .ok (.goto (-14), 3) := by decide +kernel
theorem d_Md_inWords_68 : decode m_Md_inWords.2.1 68 = .ok (.iload 6, 2) := by decide +kernel
theorem d_Md_inWords_70 : decode m_Md_inWords.2.1 70 = .ok (.iload 4, 2) := by decide +kernel
theorem d_Md_inWords_72 : decode m_Md_inWords.2.1 72 = .ok (.if_icmp .ge 43, 3) := by decide +kernel
theorem d_Md_inWords_115 : decode m_Md_inWords.2.1 115 = .ok (.iload 5, 2) := by decide +kernel
theorem d_Md_inWords_117 : decode m_Md_inWords.2.1 117 = .ok (.ifCond .eq 5, 3) := by decide +kernel
theorem d_Md_inWords_122 : decode m_Md_inWords.2.1 122 = .ok (.iinc 2 1, 3) := by decide +kernel
theorem d_Md_inWords_125 : decode m_Md_inWords.2.1 125 = .ok (.iload 4, 2) := by decide +kernel
theorem d_Md_inWords_127 : decode m_Md_inWords.2.1 127 = .ok (.iconst 1, 1) := by decide +kernel
theorem d_Md_inWords_128 : decode m_Md_inWords.2.1 128 = .ok (.iadd, 1) := by decide +kernel
theorem d_Md_inWords_129 : decode m_Md_inWords.2.1 129 = .ok (.istore_n 3, 1) := by decide +kernel
theorem d_Md_inWords_130 : decode m_Md_inWords.2.1 130 = .ok (.goto (-116), 3) := by decide +kernel
theorem d_Md_inWords_120 : decode m_Md_inWords.2.1 120 = .ok (.iload_n 2, 1) := by decide +kernel
theorem d_Md_inWords_121 : decode m_Md_inWords.2.1 121 = .ok (.ireturn, 1) := by decide +kernel
theorem d_Md_inWords_75 : decode m_Md_inWords.2.1 75 = .ok (.iload 5, 2) := by decide +kernel
theorem d_Md_inWords_77 : decode m_Md_inWords.2.1 77 = .ok (.ifCond .eq 38, 3) := by decide +kernel
theorem d_Md_inWords_80 : decode m_Md_inWords.2.1 80 = .ok (.aload_n 1, 1) := by decide +kernel
theorem d_Md_inWords_81 : decode m_Md_inWords.2.1 81 = .ok (.iload 6, 2) := by decide +kernel
theorem d_Md_inWords_83 : decode m_Md_inWords.2.1 83 = .ok (.invokevirtual 184, 3) := by decide +kernel
theorem d_Md_inWords_86 : decode m_Md_inWords.2.1 86 = .ok (.aload_n 0, 1) := by decide +kernel
theorem d_Md_inWords_87 : decode m_Md_inWords.2.1 87 = .ok (.aload_n 0, 1) := by decide +kernel
theorem d_Md_inWords_88 : decode m_Md_inWords.2.1 88 = .ok (.getfield 157, 3) := by decide +kernel
theorem d_Md_inWords_91 : decode m_Md_inWords.2.1 91 = .ok (.iload 6, 2) := by decide +kernel
theorem d_Md_inWords_93 : decode m_Md_inWords.2.1 93 = .ok (.iadd, 1) := by decide +kernel
theorem d_Md_inWords_94 : decode m_Md_inWords.2.1 94 = .ok (.iload_n 3, 1) := by decide +kernel
theorem d_Md_inWords_95 : decode m_Md_inWords.2.1 95 = .ok (.isub, 1) := by decide +kernel
theorem d_Md_inWords_96 : decode m_Md_inWords.2.1 96 = .ok (.invokevirtual 154, 3) := by decide +kernel
theorem d_Md_inWords_99 : decode m_Md_inWords.2.1 99 = .ok (.if_icmp .ne 7, 3) := by decide +kernel
theorem d_Md_inWords_106 : decode m_Md_inWords.2.1 106 = .ok (.iconst 0, 1) := by decide +kernel
theorem d_Md_inWords_107 : decode m_Md_inWords.2.1 107 = .ok (.istore 5, 2) := by decide +kernel
theorem d_Md_inWords_109 : decode m_Md_inWords.2.1 109 = .ok (.iinc 6 1, 3) := by decide +kernel
theorem d_Md_inWords_112 : decode m_Md_inWords.2.1 112 = .ok (.goto (-44), 3) := by decide +kernel
theorem d_Md_inWords_102 : decode m_Md_inWords.2.1 102 = .ok (.iconst 1, 1) := by decide +kernel
theorem d_Md_inWords_103 : decode m_Md_inWords.2.1 103 = .ok (.goto 4, 3) := by decide +kernel
