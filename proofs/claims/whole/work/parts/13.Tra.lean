abbrev m_Tr_become : aw_MI := (⟨"MaypoleGreen$Tray", "become", "(II)V"⟩, prog_12_method_2_code, 3, none)
theorem k_Tr_become : aw_K m_Tr_become 2 := ⟨aw_in 510 (by decide +kernel) rfl, aw_in 2 (by decide +kernel) rfl, ⟨by decide, by decide, by decide +kernel⟩, by decide, by decide +kernel⟩
theorem d_Tr_become_0 : decode m_Tr_become.2.1 0 = .ok (.aload_n 0, 1) := by decide +kernel
theorem d_Tr_become_1 : decode m_Tr_become.2.1 1 = .ok (.iconst 1, 1) := by decide +kernel
theorem d_Tr_become_2 : decode m_Tr_become.2.1 2 = .ok (.putfield 15, 3) := by decide +kernel
theorem f_Tr_15 : aw_F "MaypoleGreen$Tray" 15 1 1 false := ⟨cR1, cT1, 4, fun k => cY1.getD k .int, rfl, ci1, cy1, cn1, rfl, by decide, aw_in 40 (by decide +kernel) rfl, rfl, rfl, rfl⟩
theorem d_Tr_become_5 : decode m_Tr_become.2.1 5 = .ok (.aload_n 0, 1) := by decide +kernel
theorem d_Tr_become_6 : decode m_Tr_become.2.1 6 = .ok (.iload_n 1, 1) := by decide +kernel
theorem d_Tr_become_7 : decode m_Tr_become.2.1 7 = .ok (.putfield 19, 3) := by decide +kernel
theorem f_Tr_19 : aw_F "MaypoleGreen$Tray" 19 1 2 false := ⟨cR1, cT1, 4, fun k => cY1.getD k .int, rfl, ci1, cy1, cn1, rfl, by decide, aw_in 42 (by decide +kernel) rfl, rfl, rfl, rfl⟩
theorem d_Tr_become_10 : decode m_Tr_become.2.1 10 = .ok (.aload_n 0, 1) := by decide +kernel
theorem d_Tr_become_11 : decode m_Tr_become.2.1 11 = .ok (.iload_n 2, 1) := by decide +kernel
theorem d_Tr_become_12 : decode m_Tr_become.2.1 12 = .ok (.putfield 23, 3) := by decide +kernel
theorem f_Tr_23 : aw_F "MaypoleGreen$Tray" 23 1 3 false := ⟨cR1, cT1, 4, fun k => cY1.getD k .int, rfl, ci1, cy1, cn1, rfl, by decide, aw_in 44 (by decide +kernel) rfl, rfl, rfl, rfl⟩
theorem d_Tr_become_15 : decode m_Tr_become.2.1 15 = .ok (.aload_n 0, 1) := by decide +kernel
theorem d_Tr_become_16 : decode m_Tr_become.2.1 16 = .ok (.getfield 9, 3) := by decide +kernel
theorem f_Tr_9 : aw_F "MaypoleGreen$Tray" 9 1 0 true := ⟨cR1, cT1, 4, fun k => cY1.getD k .int, rfl, ci1, cy1, cn1, rfl, by decide, aw_in 37 (by decide +kernel) rfl, rfl, rfl, rfl⟩
theorem d_Tr_become_19 : decode m_Tr_become.2.1 19 = .ok (.lconst 0, 1) := by decide +kernel
theorem d_Tr_become_20 : decode m_Tr_become.2.1 20 = .ok (.invokestatic 26, 3) := by decide +kernel
theorem lk_Tr_26 : Cond.methodLink "MaypoleGreen$Tray" 26 m_Ar_fill_AJJV.1 ∈ aw_T := aw_in 511 (by decide +kernel) rfl
theorem st_Ar_fill_AJJV : Cond.static m_Ar_fill_AJJV.1 ∈ aw_T := aw_in 512 (by decide +kernel) rfl
theorem d_Tr_become_23 : decode m_Tr_become.2.1 23 = .ok (.return_, 1) := by decide +kernel
abbrev m_Tr_put : aw_MI := (⟨"MaypoleGreen$Tray", "put", "(IJ)V"⟩, prog_12_method_4_code, 4, none)
theorem k_Tr_put : aw_K m_Tr_put 2 := ⟨aw_in 529 (by decide +kernel) rfl, aw_in 2 (by decide +kernel) rfl, ⟨by decide, by decide, by decide +kernel⟩, by decide, by decide +kernel⟩
theorem d_Tr_put_0 : decode m_Tr_put.2.1 0 = .ok (.aload_n 0, 1) := by decide +kernel
theorem d_Tr_put_1 : decode m_Tr_put.2.1 1 = .ok (.getfield 9, 3) := by decide +kernel
theorem d_Tr_put_4 : decode m_Tr_put.2.1 4 = .ok (.iload_n 1, 1) := by decide +kernel
theorem d_Tr_put_5 : decode m_Tr_put.2.1 5 = .ok (.aload_n 0, 1) := by decide +kernel
theorem d_Tr_put_6 : decode m_Tr_put.2.1 6 = .ok (.lload_n 2, 1) := by decide +kernel
theorem d_Tr_put_7 : decode m_Tr_put.2.1 7 = .ok (.invokevirtual 32, 3) := by decide +kernel
abbrev m_Tr_cut : aw_MI := (⟨"MaypoleGreen$Tray", "cut", "(J)J"⟩, prog_12_method_5_code, 3, some .long)
theorem lk_Tr_32 : Cond.methodLink "MaypoleGreen$Tray" 32 m_Tr_cut.1 ∈ aw_T := aw_in 530 (by decide +kernel) rfl
theorem k_Tr_cut : aw_K m_Tr_cut 1 := ⟨aw_in 533 (by decide +kernel) rfl, aw_in 2 (by decide +kernel) rfl, ⟨by decide, by decide, by decide +kernel⟩, by decide, by decide +kernel⟩
theorem in_Tr_cut : Cond.instanceMethod m_Tr_cut.1 ∈ aw_T := aw_in 532 (by decide +kernel) rfl
theorem se_Tr_cut : Cond.selects m_Tr_cut.1.cls m_Tr_cut.1 m_Tr_cut.1 ∈ aw_T := aw_inP 3 (by decide +kernel) rfl
theorem d_Tr_put_10 : decode m_Tr_put.2.1 10 = .ok (.lastore, 1) := by decide +kernel
theorem d_Tr_put_11 : decode m_Tr_put.2.1 11 = .ok (.return_, 1) := by decide +kernel
theorem d_Tr_cut_0 : decode m_Tr_cut.2.1 0 = .ok (.aload_n 0, 1) := by decide +kernel
theorem d_Tr_cut_1 : decode m_Tr_cut.2.1 1 = .ok (.getfield 19, 3) := by decide +kernel
theorem d_Tr_cut_4 : decode m_Tr_cut.2.1 4 = .ok (.tableswitch 42 0 2 #[28, 33, 38], 28) := by decide +kernel
theorem d_Tr_cut_46 : decode m_Tr_cut.2.1 46 = .ok (.lload_n 1, 1) := by decide +kernel
theorem d_Tr_cut_47 : decode m_Tr_cut.2.1 47 = .ok (.lreturn, 1) := by decide +kernel
theorem d_Tr_cut_32 : decode m_Tr_cut.2.1 32 = .ok (.lload_n 1, 1) := by decide +kernel
theorem d_Tr_cut_33 : decode m_Tr_cut.2.1 33 = .ok (.l2i, 1) := by decide +kernel
theorem d_Tr_cut_34 : decode m_Tr_cut.2.1 34 = .ok (.i2b, 1) := by decide +kernel
theorem d_Tr_cut_35 : decode m_Tr_cut.2.1 35 = .ok (.i2l, 1) := by decide +kernel
theorem d_Tr_cut_36 : decode m_Tr_cut.2.1 36 = .ok (.lreturn, 1) := by decide +kernel
theorem d_Tr_cut_37 : decode m_Tr_cut.2.1 37 = .ok (.lload_n 1, 1) := by decide +kernel
theorem d_Tr_cut_38 : decode m_Tr_cut.2.1 38 = .ok (.l2i, 1) := by decide +kernel
theorem d_Tr_cut_39 : decode m_Tr_cut.2.1 39 = .ok (.i2s, 1) := by decide +kernel
theorem d_Tr_cut_40 : decode m_Tr_cut.2.1 40 = .ok (.i2l, 1) := by decide +kernel
theorem d_Tr_cut_41 : decode m_Tr_cut.2.1 41 = .ok (.lreturn, 1) := by decide +kernel
theorem d_Tr_cut_42 : decode m_Tr_cut.2.1 42 = .ok (.lload_n 1, 1) := by decide +kernel
theorem d_Tr_cut_43 : decode m_Tr_cut.2.1 43 = .ok (.l2i, 1) := by decide +kernel
theorem d_Tr_cut_44 : decode m_Tr_cut.2.1 44 = .ok (.i2l, 1) := by decide +kernel
theorem d_Tr_cut_45 : decode m_Tr_cut.2.1 45 = .ok (.lreturn, 1) := by decide +kernel
abbrev m_Tr_hasRoom : aw_MI := (⟨"MaypoleGreen$Tray", "hasRoom", "(II)Z"⟩, prog_12_method_3_code, 3, some .boolean)
theorem k_Tr_hasRoom : aw_K m_Tr_hasRoom 2 := ⟨aw_in 549 (by decide +kernel) rfl, aw_in 2 (by decide +kernel) rfl, ⟨by decide, by decide, by decide +kernel⟩, by decide, by decide +kernel⟩
theorem d_Tr_hasRoom_0 : decode m_Tr_hasRoom.2.1 0 = .ok (.iload_n 1, 1) := by decide +kernel
theorem d_Tr_hasRoom_1 : decode m_Tr_hasRoom.2.1 1 = .ok (.aload_n 0, 1) := by decide +kernel
theorem d_Tr_hasRoom_2 : decode m_Tr_hasRoom.2.1 2 = .ok (.getfield 23, 3) := by decide +kernel
theorem d_Tr_hasRoom_5 : decode m_Tr_hasRoom.2.1 5 = .ok (.if_icmp .gt 17, 3) := by decide +kernel
theorem d_Tr_hasRoom_22 : decode m_Tr_hasRoom.2.1 22 = .ok (.iconst 0, 1) := by decide +kernel
theorem d_Tr_hasRoom_23 : decode m_Tr_hasRoom.2.1 23 = .ok (.ireturn, 1) := by decide +kernel
theorem d_Tr_hasRoom_8 : decode m_Tr_hasRoom.2.1 8 = .ok (.iload_n 2, 1) := by decide +kernel
theorem d_Tr_hasRoom_9 : decode m_Tr_hasRoom.2.1 9 = .ok (.aload_n 0, 1) := by decide +kernel
theorem d_Tr_hasRoom_10 : decode m_Tr_hasRoom.2.1 10 = .ok (.getfield 23, 3) := by decide +kernel
theorem d_Tr_hasRoom_13 : decode m_Tr_hasRoom.2.1 13 = .ok (.iload_n 1, 1) := by decide +kernel
theorem d_Tr_hasRoom_14 : decode m_Tr_hasRoom.2.1 14 = .ok (.isub, 1) := by decide +kernel
theorem d_Tr_hasRoom_15 : decode m_Tr_hasRoom.2.1 15 = .ok (.if_icmp .gt 7, 3) := by decide +kernel
theorem d_Tr_hasRoom_18 : decode m_Tr_hasRoom.2.1 18 = .ok (.iconst 1, 1) := by decide +kernel
theorem d_Tr_hasRoom_19 : decode m_Tr_hasRoom.2.1 19 = .ok (.goto 4, 3) := by decide +kernel
abbrev m_Tr_areBelow : aw_MI := (⟨"MaypoleGreen$Tray", "areBelow", "(IIIJ)Z"⟩, prog_12_method_6_code, 7, some .boolean)
theorem k_Tr_areBelow : aw_K m_Tr_areBelow 4 := ⟨aw_in 1010 (by decide +kernel) rfl, aw_in 2 (by decide +kernel) rfl, ⟨by decide, by decide, by decide +kernel⟩, by decide, by decide +kernel⟩
theorem d_Tr_areBelow_0 : decode m_Tr_areBelow.2.1 0 = .ok (.iload_n 1, 1) := by decide +kernel
theorem d_Tr_areBelow_1 : decode m_Tr_areBelow.2.1 1 = .ok (.istore 6, 2) := by decide +kernel
theorem d_Tr_areBelow_3 : decode m_Tr_areBelow.2.1 3 = .ok (.iload 6, 2) := by decide +kernel
theorem d_Tr_areBelow_5 : decode m_Tr_areBelow.2.1 5 = .ok (.iload_n 2, 1) := by decide +kernel
theorem d_Tr_areBelow_6 : decode m_Tr_areBelow.2.1 6 = .ok (.if_icmp .ge 39, 3) := by decide +kernel
theorem d_Tr_areBelow_45 : decode m_Tr_areBelow.2.1 45 = .ok (.iconst 1, 1) := by decide +kernel
theorem d_Tr_areBelow_46 : decode m_Tr_areBelow.2.1 46 = .ok (.ireturn, 1) := by decide +kernel
theorem d_Tr_areBelow_9 : decode m_Tr_areBelow.2.1 9 = .ok (.aload_n 0, 1) := by decide +kernel
theorem d_Tr_areBelow_10 : decode m_Tr_areBelow.2.1 10 = .ok (.getfield 9, 3) := by decide +kernel
theorem d_Tr_areBelow_13 : decode m_Tr_areBelow.2.1 13 = .ok (.iload 6, 2) := by decide +kernel
theorem d_Tr_areBelow_15 : decode m_Tr_areBelow.2.1 15 = .ok (.laload, 1) := by decide +kernel
theorem d_Tr_areBelow_16 : decode m_Tr_areBelow.2.1 16 = .ok (.lconst 0, 1) := by decide +kernel
theorem d_Tr_areBelow_17 : decode m_Tr_areBelow.2.1 17 = .ok (.lcmp, 1) := by decide +kernel
theorem d_Tr_areBelow_18 : decode m_Tr_areBelow.2.1 18 = .ok (.ifCond .lt 16, 3) := by decide +kernel
theorem d_Tr_areBelow_34 : decode m_Tr_areBelow.2.1 34 = .ok (.iconst 0, 1) := by decide +kernel
theorem d_Tr_areBelow_35 : decode m_Tr_areBelow.2.1 35 = .ok (.ireturn, 1) := by decide +kernel
theorem d_Tr_areBelow_21 : decode m_Tr_areBelow.2.1 21 = .ok (.aload_n 0, 1) := by decide +kernel
theorem d_Tr_areBelow_22 : decode m_Tr_areBelow.2.1 22 = .ok (.getfield 9, 3) := by decide +kernel
theorem d_Tr_areBelow_25 : decode m_Tr_areBelow.2.1 25 = .ok (.iload 6, 2) := by decide +kernel
theorem d_Tr_areBelow_27 : decode m_Tr_areBelow.2.1 27 = .ok (.laload, 1) := by decide +kernel
theorem d_Tr_areBelow_28 : decode m_Tr_areBelow.2.1 28 = .ok (.lload 4, 2) := by decide +kernel
theorem d_Tr_areBelow_30 : decode m_Tr_areBelow.2.1 30 = .ok (.lcmp, 1) := by decide +kernel
theorem d_Tr_areBelow_31 : decode m_Tr_areBelow.2.1 31 = .ok (.ifCond .lt 5, 3) := by decide +kernel
theorem d_Tr_areBelow_36 : decode m_Tr_areBelow.2.1 36 = .ok (.iload 6, 2) := by decide +kernel
theorem d_Tr_areBelow_38 : decode m_Tr_areBelow.2.1 38 = .ok (.iload_n 3, 1) := by decide +kernel
theorem d_Tr_areBelow_39 : decode m_Tr_areBelow.2.1 39 = .ok (.iadd, 1) := by decide +kernel
theorem d_Tr_areBelow_40 : decode m_Tr_areBelow.2.1 40 = .ok (.istore 6, 2) := by decide +kernel
theorem d_Tr_areBelow_42 : decode m_Tr_areBelow.2.1 42 = .ok (.goto (-39), 3) := by decide +kernel
