theorem d_Md_weaves1_0 : decode m_Md_weaves1.2.1 0 = .ok (.aload_n 0, 1) := by decide +kernel
theorem d_Md_weaves1_1 : decode m_Md_weaves1.2.1 1 = .ok (.iload_n 1, 1) := by decide +kernel
theorem d_Md_weaves1_2 : decode m_Md_weaves1.2.1 2 = .ok (.iload_n 2, 1) := by decide +kernel
theorem d_Md_weaves1_3 : decode m_Md_weaves1.2.1 3 = .ok (.invokevirtual 352, 3) := by decide +kernel
theorem d_Md_weaves1_6 : decode m_Md_weaves1.2.1 6 = .ok (.istore_n 3, 1) := by decide +kernel
theorem d_Md_weaves1_7 : decode m_Md_weaves1.2.1 7 = .ok (.aload_n 0, 1) := by decide +kernel
theorem d_Md_weaves1_8 : decode m_Md_weaves1.2.1 8 = .ok (.dup, 1) := by decide +kernel
theorem d_Md_weaves1_9 : decode m_Md_weaves1.2.1 9 = .ok (.getfield 358, 3) := by decide +kernel
theorem d_Md_weaves1_12 : decode m_Md_weaves1.2.1 12 = .ok (.iload_n 3, 1) := by decide +kernel
theorem d_Md_weaves1_13 : decode m_Md_weaves1.2.1 13 = .ok (.iconst 1, 1) := by decide +kernel
theorem d_Md_weaves1_14 : decode m_Md_weaves1.2.1 14 = .ok (.if_icmp .ne 7, 3) := by decide +kernel
theorem d_Md_weaves1_21 : decode m_Md_weaves1.2.1 21 = .ok (.iconst 0, 1) := by decide +kernel
theorem d_Md_weaves1_22 : decode m_Md_weaves1.2.1 22 = .ok (.iadd, 1) := by decide +kernel
theorem d_Md_weaves1_23 : decode m_Md_weaves1.2.1 23 = .ok (.putfield 358, 3) := by decide +kernel
theorem d_Md_weaves1_26 : decode m_Md_weaves1.2.1 26 = .ok (.aload_n 0, 1) := by decide +kernel
theorem d_Md_weaves1_27 : decode m_Md_weaves1.2.1 27 = .ok (.dup, 1) := by decide +kernel
theorem d_Md_weaves1_28 : decode m_Md_weaves1.2.1 28 = .ok (.getfield 361, 3) := by decide +kernel
theorem d_Md_weaves1_31 : decode m_Md_weaves1.2.1 31 = .ok (.iload_n 3, 1) := by decide +kernel
theorem d_Md_weaves1_32 : decode m_Md_weaves1.2.1 32 = .ok (.iconst 2, 1) := by decide +kernel
theorem d_Md_weaves1_33 : decode m_Md_weaves1.2.1 33 = .ok (.if_icmp .ne 7, 3) := by decide +kernel
theorem d_Md_weaves1_40 : decode m_Md_weaves1.2.1 40 = .ok (.iconst 0, 1) := by decide +kernel
theorem d_Md_weaves1_41 : decode m_Md_weaves1.2.1 41 = .ok (.iadd, 1) := by decide +kernel
theorem d_Md_weaves1_42 : decode m_Md_weaves1.2.1 42 = .ok (.putfield 361, 3) := by decide +kernel
theorem d_Md_weaves1_45 : decode m_Md_weaves1.2.1 45 = .ok (.return_, 1) := by decide +kernel
theorem d_Md_weaves1_36 : decode m_Md_weaves1.2.1 36 = .ok (.iconst 1, 1) := by decide +kernel
theorem d_Md_weaves1_37 : decode m_Md_weaves1.2.1 37 = .ok (.goto 4, 3) := by decide +kernel
theorem d_Md_weaves1_17 : decode m_Md_weaves1.2.1 17 = .ok (.iconst 1, 1) := by decide +kernel
theorem d_Md_weaves1_18 : decode m_Md_weaves1.2.1 18 = .ok (.goto 4, 3) := by decide +kernel
abbrev m_Md_paint : aw_MI := (⟨"MaypoleGreenModel", "paint", "(II)I"⟩, prog_14_method_87_code, 4, some .int)
theorem k_Md_paint : aw_K m_Md_paint 2 := ⟨aw_in 1732 (by decide +kernel) rfl, aw_in 16 (by decide +kernel) rfl, ⟨by decide, by decide, by decide +kernel⟩, by decide, by decide +kernel⟩
theorem d_Md_paint_0 : decode m_Md_paint.2.1 0 = .ok (.aload_n 0, 1) := by decide +kernel
theorem d_Md_paint_1 : decode m_Md_paint.2.1 1 = .ok (.iload_n 1, 1) := by decide +kernel
theorem d_Md_paint_2 : decode m_Md_paint.2.1 2 = .ok (.invokevirtual 313, 3) := by decide +kernel
theorem d_Md_paint_5 : decode m_Md_paint.2.1 5 = .ok (.ifCond .eq 15, 3) := by decide +kernel
theorem d_Md_paint_20 : decode m_Md_paint.2.1 20 = .ok (.aload_n 0, 1) := by decide +kernel
theorem d_Md_paint_21 : decode m_Md_paint.2.1 21 = .ok (.iconst 1, 1) := by decide +kernel
theorem d_Md_paint_22 : decode m_Md_paint.2.1 22 = .ok (.invokevirtual 118, 3) := by decide +kernel
theorem d_Md_paint_25 : decode m_Md_paint.2.1 25 = .ok (.ireturn, 1) := by decide +kernel
theorem d_Md_paint_8 : decode m_Md_paint.2.1 8 = .ok (.iload_n 2, 1) := by decide +kernel
theorem d_Md_paint_9 : decode m_Md_paint.2.1 9 = .ok (.i2l, 1) := by decide +kernel
theorem d_Md_paint_10 : decode m_Md_paint.2.1 10 = .ok (.lconst 0, 1) := by decide +kernel
theorem d_Md_paint_11 : decode m_Md_paint.2.1 11 = .ok (.ldc2_w 370, 3) := by decide +kernel
theorem cl_Md_370 : Cond.constantLong "MaypoleGreenModel" 370 (5) ∈ aw_T := aw_in 1733 (by decide +kernel) rfl
theorem d_Md_paint_14 : decode m_Md_paint.2.1 14 = .ok (.invokestatic 372, 3) := by decide +kernel
abbrev m_Md_isFrom : aw_MI := (⟨"MaypoleGreenModel", "isFrom", "(JJJ)Z"⟩, prog_14_method_18_code, 6, some .boolean)
theorem lk_Md_372 : Cond.methodLink "MaypoleGreenModel" 372 m_Md_isFrom.1 ∈ aw_T := aw_in 1734 (by decide +kernel) rfl
theorem k_Md_isFrom : aw_K m_Md_isFrom 3 := ⟨aw_in 1736 (by decide +kernel) rfl, aw_in 16 (by decide +kernel) rfl, ⟨by decide, by decide, by decide +kernel⟩, by decide, by decide +kernel⟩
theorem st_Md_isFrom : Cond.static m_Md_isFrom.1 ∈ aw_T := aw_in 1735 (by decide +kernel) rfl
theorem d_Md_paint_17 : decode m_Md_paint.2.1 17 = .ok (.ifCond .ne 9, 3) := by decide +kernel
theorem d_Md_paint_26 : decode m_Md_paint.2.1 26 = .ok (.aload_n 0, 1) := by decide +kernel
theorem d_Md_paint_27 : decode m_Md_paint.2.1 27 = .ok (.getfield 7, 3) := by decide +kernel
theorem d_Md_paint_30 : decode m_Md_paint.2.1 30 = .ok (.bipush 10, 2) := by decide +kernel
theorem d_Md_paint_32 : decode m_Md_paint.2.1 32 = .ok (.iload_n 1, 1) := by decide +kernel
theorem d_Md_paint_33 : decode m_Md_paint.2.1 33 = .ok (.iadd, 1) := by decide +kernel
theorem d_Md_paint_34 : decode m_Md_paint.2.1 34 = .ok (.iaload, 1) := by decide +kernel
theorem d_Md_paint_35 : decode m_Md_paint.2.1 35 = .ok (.istore_n 3, 1) := by decide +kernel
theorem d_Md_paint_36 : decode m_Md_paint.2.1 36 = .ok (.aload_n 0, 1) := by decide +kernel
theorem d_Md_paint_37 : decode m_Md_paint.2.1 37 = .ok (.iload_n 1, 1) := by decide +kernel
theorem d_Md_paint_38 : decode m_Md_paint.2.1 38 = .ok (.iload_n 2, 1) := by decide +kernel
theorem d_Md_paint_39 : decode m_Md_paint.2.1 39 = .ok (.invokevirtual 376, 3) := by decide +kernel
abbrev m_Md_paints : aw_MI := (⟨"MaypoleGreenModel", "paints", "(II)Z"⟩, prog_14_method_86_code, 4, some .boolean)
theorem lk_Md_376 : Cond.methodLink "MaypoleGreenModel" 376 m_Md_paints.1 ∈ aw_T := aw_in 1737 (by decide +kernel) rfl
theorem k_Md_paints : aw_K m_Md_paints 2 := ⟨aw_in 1740 (by decide +kernel) rfl, aw_in 16 (by decide +kernel) rfl, ⟨by decide, by decide, by decide +kernel⟩, by decide, by decide +kernel⟩
theorem in_Md_paints : Cond.instanceMethod m_Md_paints.1 ∈ aw_T := aw_in 1739 (by decide +kernel) rfl
theorem se_Md_paints : Cond.selects m_Md_paints.1.cls m_Md_paints.1 m_Md_paints.1 ∈ aw_T := aw_inP 109 (by decide +kernel) rfl
theorem d_Md_paint_42 : decode m_Md_paint.2.1 42 = .ok (.pop, 1) := by decide +kernel
theorem d_Md_paint_43 : decode m_Md_paint.2.1 43 = .ok (.aload_n 0, 1) := by decide +kernel
theorem d_Md_paint_44 : decode m_Md_paint.2.1 44 = .ok (.iload_n 3, 1) := by decide +kernel
theorem d_Md_paint_45 : decode m_Md_paint.2.1 45 = .ok (.invokevirtual 122, 3) := by decide +kernel
theorem d_Md_paint_48 : decode m_Md_paint.2.1 48 = .ok (.ireturn, 1) := by decide +kernel
theorem d_Md_isFrom_0 : decode m_Md_isFrom.2.1 0 = .ok (.lload_n 0, 1) := by decide +kernel
theorem d_Md_isFrom_1 : decode m_Md_isFrom.2.1 1 = .ok (.lload_n 2, 1) := by decide +kernel
theorem d_Md_isFrom_2 : decode m_Md_isFrom.2.1 2 = .ok (.lcmp, 1) := by decide +kernel
theorem d_Md_isFrom_3 : decode m_Md_isFrom.2.1 3 = .ok (.ifCond .lt 14, 3) := by decide +kernel
theorem d_Md_isFrom_17 : decode m_Md_isFrom.2.1 17 = .ok (.iconst 0, 1) := by decide +kernel
theorem d_Md_isFrom_18 : decode m_Md_isFrom.2.1 18 = .ok (.ireturn, 1) := by decide +kernel
theorem d_Md_isFrom_6 : decode m_Md_isFrom.2.1 6 = .ok (.lload_n 0, 1) := by decide +kernel
theorem d_Md_isFrom_7 : decode m_Md_isFrom.2.1 7 = .ok (.lload 4, 2) := by decide +kernel
theorem d_Md_isFrom_9 : decode m_Md_isFrom.2.1 9 = .ok (.lcmp, 1) := by decide +kernel
theorem d_Md_isFrom_10 : decode m_Md_isFrom.2.1 10 = .ok (.ifCond .gt 7, 3) := by decide +kernel
theorem d_Md_isFrom_13 : decode m_Md_isFrom.2.1 13 = .ok (.iconst 1, 1) := by decide +kernel
theorem d_Md_isFrom_14 : decode m_Md_isFrom.2.1 14 = .ok (.goto 4, 3) := by decide +kernel
theorem d_Md_paints_0 : decode m_Md_paints.2.1 0 = .ok (.aload_n 0, 1) := by decide +kernel
theorem d_Md_paints_1 : decode m_Md_paints.2.1 1 = .ok (.getfield 7, 3) := by decide +kernel
theorem d_Md_paints_4 : decode m_Md_paints.2.1 4 = .ok (.bipush 10, 2) := by decide +kernel
theorem d_Md_paints_6 : decode m_Md_paints.2.1 6 = .ok (.iload_n 1, 1) := by decide +kernel
theorem d_Md_paints_7 : decode m_Md_paints.2.1 7 = .ok (.iadd, 1) := by decide +kernel
theorem d_Md_paints_8 : decode m_Md_paints.2.1 8 = .ok (.iaload, 1) := by decide +kernel
theorem d_Md_paints_9 : decode m_Md_paints.2.1 9 = .ok (.iload_n 2, 1) := by decide +kernel
theorem d_Md_paints_10 : decode m_Md_paints.2.1 10 = .ok (.if_icmp .eq 7, 3) := by decide +kernel
theorem d_Md_paints_17 : decode m_Md_paints.2.1 17 = .ok (.iconst 0, 1) := by decide +kernel
theorem d_Md_paints_18 : decode m_Md_paints.2.1 18 = .ok (.istore_n 3, 1) := by decide +kernel
theorem d_Md_paints_19 : decode m_Md_paints.2.1 19 = .ok (.aload_n 0, 1) := by decide +kernel
theorem d_Md_paints_20 : decode m_Md_paints.2.1 20 = .ok (.getfield 7, 3) := by decide +kernel
theorem d_Md_paints_23 : decode m_Md_paints.2.1 23 = .ok (.bipush 10, 2) := by decide +kernel
theorem d_Md_paints_25 : decode m_Md_paints.2.1 25 = .ok (.iload_n 1, 1) := by decide +kernel
theorem d_Md_paints_26 : decode m_Md_paints.2.1 26 = .ok (.iadd, 1) := by decide +kernel
theorem d_Md_paints_27 : decode m_Md_paints.2.1 27 = .ok (.iload_n 2, 1) := by decide +kernel
theorem d_Md_paints_28 : decode m_Md_paints.2.1 28 = .ok (.iastore, 1) := by decide +kernel
theorem d_Md_paints_29 : decode m_Md_paints.2.1 29 = .ok (.iload_n 3, 1) := by decide +kernel
theorem d_Md_paints_30 : decode m_Md_paints.2.1 30 = .ok (.ireturn, 1) := by decide +kernel
theorem d_Md_paints_13 : decode m_Md_paints.2.1 13 = .ok (.iconst 1, 1) := by decide +kernel
theorem d_Md_paints_14 : decode m_Md_paints.2.1 14 = .ok (.goto 4, 3) := by decide +kernel
abbrev m_Md_trade : aw_MI := (⟨"MaypoleGreenModel", "trade", "(II)Z"⟩, prog_14_method_88_code, 4, some .boolean)
theorem k_Md_trade : aw_K m_Md_trade 2 := ⟨aw_in 1744 (by decide +kernel) rfl, aw_in 16 (by decide +kernel) rfl, ⟨by decide, by decide, by decide +kernel⟩, by decide, by decide +kernel⟩
theorem d_Md_trade_0 : decode m_Md_trade.2.1 0 = .ok (.aload_n 0, 1) := by decide +kernel
theorem d_Md_trade_1 : decode m_Md_trade.2.1 1 = .ok (.iload_n 1, 1) := by decide +kernel
theorem d_Md_trade_2 : decode m_Md_trade.2.1 2 = .ok (.iload_n 2, 1) := by decide +kernel
theorem d_Md_trade_3 : decode m_Md_trade.2.1 3 = .ok (.invokevirtual 379, 3) := by decide +kernel
abbrev m_Md_areTwo : aw_MI := (⟨"MaypoleGreenModel", "areTwo", "(II)Z"⟩, prog_14_method_60_code, 3, some .boolean)
theorem lk_Md_379 : Cond.methodLink "MaypoleGreenModel" 379 m_Md_areTwo.1 ∈ aw_T := aw_in 1745 (by decide +kernel) rfl
theorem k_Md_areTwo : aw_K m_Md_areTwo 2 := ⟨aw_in 1748 (by decide +kernel) rfl, aw_in 16 (by decide +kernel) rfl, ⟨by decide, by decide, by decide +kernel⟩, by decide, by decide +kernel⟩
theorem in_Md_areTwo : Cond.instanceMethod m_Md_areTwo.1 ∈ aw_T := aw_in 1747 (by decide +kernel) rfl
theorem se_Md_areTwo : Cond.selects m_Md_areTwo.1.cls m_Md_areTwo.1 m_Md_areTwo.1 ∈ aw_T := aw_inP 110 (by decide +kernel) rfl
theorem d_Md_trade_6 : decode m_Md_trade.2.1 6 = .ok (.ifCond .ne 9, 3) := by decide +kernel
theorem d_Md_trade_15 : decode m_Md_trade.2.1 15 = .ok (.aload_n 0, 1) := by decide +kernel
theorem d_Md_trade_16 : decode m_Md_trade.2.1 16 = .ok (.getfield 7, 3) := by decide +kernel
theorem d_Md_trade_19 : decode m_Md_trade.2.1 19 = .ok (.bipush 10, 2) := by decide +kernel
theorem d_Md_trade_21 : decode m_Md_trade.2.1 21 = .ok (.iload_n 1, 1) := by decide +kernel
theorem d_Md_trade_22 : decode m_Md_trade.2.1 22 = .ok (.iadd, 1) := by decide +kernel
theorem d_Md_trade_23 : decode m_Md_trade.2.1 23 = .ok (.iaload, 1) := by decide +kernel
theorem d_Md_trade_24 : decode m_Md_trade.2.1 24 = .ok (.istore_n 3, 1) := by decide +kernel
theorem d_Md_trade_25 : decode m_Md_trade.2.1 25 = .ok (.iload_n 3, 1) := by decide +kernel
theorem d_Md_trade_26 : decode m_Md_trade.2.1 26 = .ok (.aload_n 0, 1) := by decide +kernel
theorem d_Md_trade_27 : decode m_Md_trade.2.1 27 = .ok (.getfield 7, 3) := by decide +kernel
theorem d_Md_trade_30 : decode m_Md_trade.2.1 30 = .ok (.bipush 10, 2) := by decide +kernel
theorem d_Md_trade_32 : decode m_Md_trade.2.1 32 = .ok (.iload_n 2, 1) := by decide +kernel
theorem d_Md_trade_33 : decode m_Md_trade.2.1 33 = .ok (.iadd, 1) := by decide +kernel
theorem d_Md_trade_34 : decode m_Md_trade.2.1 34 = .ok (.iaload, 1) := by decide +kernel
theorem d_Md_trade_35 : decode m_Md_trade.2.1 35 = .ok (.if_icmp .ne 10, 3) := by decide +kernel
theorem d_Md_trade_45 : decode m_Md_trade.2.1 45 = .ok (.aload_n 0, 1) := by decide +kernel
theorem d_Md_trade_46 : decode m_Md_trade.2.1 46 = .ok (.getfield 7, 3) := by decide +kernel
theorem d_Md_trade_49 : decode m_Md_trade.2.1 49 = .ok (.bipush 10, 2) := by decide +kernel
theorem d_Md_trade_51 : decode m_Md_trade.2.1 51 = .ok (.iload_n 1, 1) := by decide +kernel
theorem d_Md_trade_52 : decode m_Md_trade.2.1 52 = .ok (.iadd, 1) := by decide +kernel
theorem d_Md_trade_53 : decode m_Md_trade.2.1 53 = .ok (.aload_n 0, 1) := by decide +kernel
theorem d_Md_trade_54 : decode m_Md_trade.2.1 54 = .ok (.getfield 7, 3) := by decide +kernel
theorem d_Md_trade_57 : decode m_Md_trade.2.1 57 = .ok (.bipush 10, 2) := by decide +kernel
theorem d_Md_trade_59 : decode m_Md_trade.2.1 59 = .ok (.iload_n 2, 1) := by decide +kernel
theorem d_Md_trade_60 : decode m_Md_trade.2.1 60 = .ok (.iadd, 1) := by decide +kernel
theorem d_Md_trade_61 : decode m_Md_trade.2.1 61 = .ok (.iaload, 1) := by decide +kernel
theorem d_Md_trade_62 : decode m_Md_trade.2.1 62 = .ok (.iastore, 1) := by decide +kernel
theorem d_Md_trade_63 : decode m_Md_trade.2.1 63 = .ok (.aload_n 0, 1) := by decide +kernel
theorem d_Md_trade_64 : decode m_Md_trade.2.1 64 = .ok (.getfield 7, 3) := by decide +kernel
theorem d_Md_trade_67 : decode m_Md_trade.2.1 67 = .ok (.bipush 10, 2) := by decide +kernel
theorem d_Md_trade_69 : decode m_Md_trade.2.1 69 = .ok (.iload_n 2, 1) := by decide +kernel
theorem d_Md_trade_70 : decode m_Md_trade.2.1 70 = .ok (.iadd, 1) := by decide +kernel
theorem d_Md_trade_71 : decode m_Md_trade.2.1 71 = .ok (.iload_n 3, 1) := by decide +kernel
theorem d_Md_trade_72 : decode m_Md_trade.2.1 72 = .ok (.iastore, 1) := by decide +kernel
theorem d_Md_trade_73 : decode m_Md_trade.2.1 73 = .ok (.aload_n 0, 1) := by decide +kernel
theorem d_Md_trade_74 : decode m_Md_trade.2.1 74 = .ok (.iconst 0, 1) := by decide +kernel
theorem d_Md_trade_75 : decode m_Md_trade.2.1 75 = .ok (.invokevirtual 125, 3) := by decide +kernel
theorem d_Md_trade_78 : decode m_Md_trade.2.1 78 = .ok (.ireturn, 1) := by decide +kernel
theorem d_Md_trade_38 : decode m_Md_trade.2.1 38 = .ok (.aload_n 0, 1) := by decide +kernel
theorem d_Md_trade_39 : decode m_Md_trade.2.1 39 = .ok (.bipush 7, 2) := by decide +kernel
theorem d_Md_trade_41 : decode m_Md_trade.2.1 41 = .ok (.invokevirtual 125, 3) := by decide +kernel
theorem d_Md_trade_44 : decode m_Md_trade.2.1 44 = .ok (.ireturn, 1) := by decide +kernel
theorem d_Md_trade_9 : decode m_Md_trade.2.1 9 = .ok (.aload_n 0, 1) := by decide +kernel
theorem d_Md_trade_10 : decode m_Md_trade.2.1 10 = .ok (.iconst 1, 1) := by decide +kernel
theorem d_Md_trade_11 : decode m_Md_trade.2.1 11 = .ok (.invokevirtual 125, 3) := by decide +kernel
theorem d_Md_trade_14 : decode m_Md_trade.2.1 14 = .ok (.ireturn, 1) := by decide +kernel
theorem d_Md_areTwo_0 : decode m_Md_areTwo.2.1 0 = .ok (.aload_n 0, 1) := by decide +kernel
theorem d_Md_areTwo_1 : decode m_Md_areTwo.2.1 1 = .ok (.iload_n 1, 1) := by decide +kernel
theorem d_Md_areTwo_2 : decode m_Md_areTwo.2.1 2 = .ok (.invokevirtual 313, 3) := by decide +kernel
theorem d_Md_areTwo_5 : decode m_Md_areTwo.2.1 5 = .ok (.ifCond .eq 20, 3) := by decide +kernel
theorem d_Md_areTwo_25 : decode m_Md_areTwo.2.1 25 = .ok (.iconst 0, 1) := by decide +kernel
theorem d_Md_areTwo_26 : decode m_Md_areTwo.2.1 26 = .ok (.ireturn, 1) := by decide +kernel
theorem d_Md_areTwo_8 : decode m_Md_areTwo.2.1 8 = .ok (.aload_n 0, 1) := by decide +kernel
theorem d_Md_areTwo_9 : decode m_Md_areTwo.2.1 9 = .ok (.iload_n 2, 1) := by decide +kernel
theorem d_Md_areTwo_10 : decode m_Md_areTwo.2.1 10 = .ok (.invokevirtual 313, 3) := by decide +kernel
theorem d_Md_areTwo_13 : decode m_Md_areTwo.2.1 13 = .ok (.ifCond .eq 12, 3) := by decide +kernel
theorem d_Md_areTwo_16 : decode m_Md_areTwo.2.1 16 = .ok (.iload_n 1, 1) := by decide +kernel
theorem d_Md_areTwo_17 : decode m_Md_areTwo.2.1 17 = .ok (.iload_n 2, 1) := by decide +kernel
theorem d_Md_areTwo_18 : decode m_Md_areTwo.2.1 18 = .ok (.if_icmp .eq 7, 3) := by decide +kernel
theorem d_Md_areTwo_21 : decode m_Md_areTwo.2.1 21 = .ok (.iconst 1, 1) := by decide +kernel
theorem d_Md_areTwo_22 : decode m_Md_areTwo.2.1 22 = .ok (.goto 4, 3) := by decide +kernel
abbrev m_Md_come : aw_MI := (⟨"MaypoleGreenModel", "come", "(I)I"⟩, prog_14_method_89_code, 3, some .int)
theorem k_Md_come : aw_K m_Md_come 1 := ⟨aw_in 1752 (by decide +kernel) rfl, aw_in 16 (by decide +kernel) rfl, ⟨by decide, by decide, by decide +kernel⟩, by decide, by decide +kernel⟩
theorem d_Md_come_0 : decode m_Md_come.2.1 0 = .ok (.iload_n 1, 1) := by decide +kernel
theorem d_Md_come_1 : decode m_Md_come.2.1 1 = .ok (.i2l, 1) := by decide +kernel
theorem d_Md_come_2 : decode m_Md_come.2.1 2 = .ok (.lconst 0, 1) := by decide +kernel
theorem d_Md_come_3 : decode m_Md_come.2.1 3 = .ok (.ldc2_w 370, 3) := by decide +kernel
theorem d_Md_come_6 : decode m_Md_come.2.1 6 = .ok (.invokestatic 372, 3) := by decide +kernel
theorem d_Md_come_9 : decode m_Md_come.2.1 9 = .ok (.ifCond .ne 9, 3) := by decide +kernel
theorem d_Md_come_18 : decode m_Md_come.2.1 18 = .ok (.aload_n 0, 1) := by decide +kernel
theorem d_Md_come_19 : decode m_Md_come.2.1 19 = .ok (.getfield 7, 3) := by decide +kernel
theorem d_Md_come_22 : decode m_Md_come.2.1 22 = .ok (.iconst 0, 1) := by decide +kernel
theorem d_Md_come_23 : decode m_Md_come.2.1 23 = .ok (.iaload, 1) := by decide +kernel
theorem d_Md_come_24 : decode m_Md_come.2.1 24 = .ok (.istore_n 2, 1) := by decide +kernel
theorem d_Md_come_25 : decode m_Md_come.2.1 25 = .ok (.iload_n 2, 1) := by decide +kernel
theorem d_Md_come_26 : decode m_Md_come.2.1 26 = .ok (.bipush 7, 2) := by decide +kernel
theorem d_Md_come_28 : decode m_Md_come.2.1 28 = .ok (.if_icmp .ne 9, 3) := by decide +kernel
theorem d_Md_come_37 : decode m_Md_come.2.1 37 = .ok (.aload_n 0, 1) := by decide +kernel
theorem d_Md_come_38 : decode m_Md_come.2.1 38 = .ok (.getfield 7, 3) := by decide +kernel
theorem d_Md_come_41 : decode m_Md_come.2.1 41 = .ok (.iconst 3, 1) := by decide +kernel
theorem d_Md_come_42 : decode m_Md_come.2.1 42 = .ok (.iaload, 1) := by decide +kernel
theorem d_Md_come_43 : decode m_Md_come.2.1 43 = .ok (.ifCond .gt 14, 3) := by decide +kernel
theorem d_Md_come_57 : decode m_Md_come.2.1 57 = .ok (.aload_n 0, 1) := by decide +kernel
theorem d_Md_come_58 : decode m_Md_come.2.1 58 = .ok (.bipush 7, 2) := by decide +kernel
theorem d_Md_come_60 : decode m_Md_come.2.1 60 = .ok (.invokevirtual 118, 3) := by decide +kernel
theorem d_Md_come_63 : decode m_Md_come.2.1 63 = .ok (.ireturn, 1) := by decide +kernel
theorem d_Md_come_46 : decode m_Md_come.2.1 46 = .ok (.aload_n 0, 1) := by decide +kernel
theorem d_Md_come_47 : decode m_Md_come.2.1 47 = .ok (.invokevirtual 328, 3) := by decide +kernel
theorem d_Md_come_50 : decode m_Md_come.2.1 50 = .ok (.invokestatic 322, 3) := by decide +kernel
theorem d_Md_come_53 : decode m_Md_come.2.1 53 = .ok (.iload_n 2, 1) := by decide +kernel
theorem d_Md_come_54 : decode m_Md_come.2.1 54 = .ok (.if_icmp .eq 10, 3) := by decide +kernel
theorem d_Md_come_64 : decode m_Md_come.2.1 64 = .ok (.aload_n 0, 1) := by decide +kernel
theorem d_Md_come_65 : decode m_Md_come.2.1 65 = .ok (.getfield 7, 3) := by decide +kernel
theorem d_Md_come_68 : decode m_Md_come.2.1 68 = .ok (.bipush 10, 2) := by decide +kernel
theorem d_Md_come_70 : decode m_Md_come.2.1 70 = .ok (.iload_n 2, 1) := by decide +kernel
theorem d_Md_come_71 : decode m_Md_come.2.1 71 = .ok (.iadd, 1) := by decide +kernel
theorem d_Md_come_72 : decode m_Md_come.2.1 72 = .ok (.iload_n 1, 1) := by decide +kernel
theorem d_Md_come_73 : decode m_Md_come.2.1 73 = .ok (.iastore, 1) := by decide +kernel
theorem d_Md_come_74 : decode m_Md_come.2.1 74 = .ok (.aload_n 0, 1) := by decide +kernel
theorem d_Md_come_75 : decode m_Md_come.2.1 75 = .ok (.getfield 7, 3) := by decide +kernel
theorem d_Md_come_78 : decode m_Md_come.2.1 78 = .ok (.bipush 17, 2) := by decide +kernel
theorem d_Md_come_80 : decode m_Md_come.2.1 80 = .ok (.iload_n 2, 1) := by decide +kernel
theorem d_Md_come_81 : decode m_Md_come.2.1 81 = .ok (.iadd, 1) := by decide +kernel
theorem d_Md_come_82 : decode m_Md_come.2.1 82 = .ok (.iload_n 2, 1) := by decide +kernel
theorem d_Md_come_83 : decode m_Md_come.2.1 83 = .ok (.iastore, 1) := by decide +kernel
theorem d_Md_come_84 : decode m_Md_come.2.1 84 = .ok (.aload_n 0, 1) := by decide +kernel
theorem d_Md_come_85 : decode m_Md_come.2.1 85 = .ok (.getfield 13, 3) := by decide +kernel
theorem d_Md_come_88 : decode m_Md_come.2.1 88 = .ok (.iload_n 2, 1) := by decide +kernel
theorem d_Md_come_89 : decode m_Md_come.2.1 89 = .ok (.lconst 0, 1) := by decide +kernel
theorem d_Md_come_90 : decode m_Md_come.2.1 90 = .ok (.lastore, 1) := by decide +kernel
theorem d_Md_come_91 : decode m_Md_come.2.1 91 = .ok (.aload_n 0, 1) := by decide +kernel
theorem d_Md_come_92 : decode m_Md_come.2.1 92 = .ok (.getfield 7, 3) := by decide +kernel
theorem d_Md_come_95 : decode m_Md_come.2.1 95 = .ok (.iconst 0, 1) := by decide +kernel
theorem d_Md_come_96 : decode m_Md_come.2.1 96 = .ok (.dup2, 1) := by decide +kernel
theorem d_Md_come_97 : decode m_Md_come.2.1 97 = .ok (.iaload, 1) := by decide +kernel
theorem d_Md_come_98 : decode m_Md_come.2.1 98 = .ok (.iconst 1, 1) := by decide +kernel
theorem d_Md_come_99 : decode m_Md_come.2.1 99 = .ok (.iadd, 1) := by decide +kernel
theorem d_Md_come_100 : decode m_Md_come.2.1 100 = .ok (.iastore, 1) := by decide +kernel
theorem d_Md_come_101 : decode m_Md_come.2.1 101 = .ok (.aload_n 0, 1) := by decide +kernel
theorem d_Md_come_102 : decode m_Md_come.2.1 102 = .ok (.iload_n 2, 1) := by decide +kernel
theorem d_Md_come_103 : decode m_Md_come.2.1 103 = .ok (.invokevirtual 122, 3) := by decide +kernel
theorem d_Md_come_106 : decode m_Md_come.2.1 106 = .ok (.ireturn, 1) := by decide +kernel
theorem d_Md_come_31 : decode m_Md_come.2.1 31 = .ok (.aload_n 0, 1) := by decide +kernel
theorem d_Md_come_32 : decode m_Md_come.2.1 32 = .ok (.iconst 4, 1) := by decide +kernel
theorem d_Md_come_33 : decode m_Md_come.2.1 33 = .ok (.invokevirtual 118, 3) := by decide +kernel
theorem d_Md_come_36 : decode m_Md_come.2.1 36 = .ok (.ireturn, 1) := by decide +kernel
theorem d_Md_come_12 : decode m_Md_come.2.1 12 = .ok (.aload_n 0, 1) := by decide +kernel
theorem d_Md_come_13 : decode m_Md_come.2.1 13 = .ok (.iconst 1, 1) := by decide +kernel
theorem d_Md_come_14 : decode m_Md_come.2.1 14 = .ok (.invokevirtual 118, 3) := by decide +kernel
theorem d_Md_come_17 : decode m_Md_come.2.1 17 = .ok (.ireturn, 1) := by decide +kernel
abbrev m_Md_rule : aw_MI := (⟨"MaypoleGreenModel", "rule", "(II)Z"⟩, prog_14_method_90_code, 3, some .boolean)
theorem k_Md_rule : aw_K m_Md_rule 2 := ⟨aw_in 1756 (by decide +kernel) rfl, aw_in 16 (by decide +kernel) rfl, ⟨by decide, by decide, by decide +kernel⟩, by decide, by decide +kernel⟩
theorem d_Md_rule_0 : decode m_Md_rule.2.1 0 = .ok (.iload_n 1, 1) := by decide +kernel
theorem d_Md_rule_1 : decode m_Md_rule.2.1 1 = .ok (.iconst 3, 1) := by decide +kernel
theorem d_Md_rule_2 : decode m_Md_rule.2.1 2 = .ok (.if_icmp .eq 8, 3) := by decide +kernel
theorem d_Md_rule_10 : decode m_Md_rule.2.1 10 = .ok (.iload_n 2, 1) := by decide +kernel
theorem d_Md_rule_11 : decode m_Md_rule.2.1 11 = .ok (.i2l, 1) := by decide +kernel
theorem d_Md_rule_12 : decode m_Md_rule.2.1 12 = .ok (.iload_n 1, 1) := by decide +kernel
theorem d_Md_rule_13 : decode m_Md_rule.2.1 13 = .ok (.iconst 3, 1) := by decide +kernel
theorem d_Md_rule_14 : decode m_Md_rule.2.1 14 = .ok (.if_icmp .ne 7, 3) := by decide +kernel
theorem d_Md_rule_21 : decode m_Md_rule.2.1 21 = .ok (.lconst 1, 1) := by decide +kernel
theorem d_Md_rule_22 : decode m_Md_rule.2.1 22 = .ok (.iload_n 1, 1) := by decide +kernel
theorem d_Md_rule_23 : decode m_Md_rule.2.1 23 = .ok (.iconst 3, 1) := by decide +kernel
theorem d_Md_rule_24 : decode m_Md_rule.2.1 24 = .ok (.if_icmp .ne 9, 3) := by decide +kernel
theorem d_Md_rule_33 : decode m_Md_rule.2.1 33 = .ok (.ldc2_w 384, 3) := by decide +kernel
theorem cl_Md_384 : Cond.constantLong "MaypoleGreenModel" 384 (40) ∈ aw_T := aw_in 1758 (by decide +kernel) rfl
theorem d_Md_rule_36 : decode m_Md_rule.2.1 36 = .ok (.invokestatic 372, 3) := by decide +kernel
theorem d_Md_rule_39 : decode m_Md_rule.2.1 39 = .ok (.ifCond .ne 9, 3) := by decide +kernel
theorem d_Md_rule_48 : decode m_Md_rule.2.1 48 = .ok (.aload_n 0, 1) := by decide +kernel
theorem d_Md_rule_49 : decode m_Md_rule.2.1 49 = .ok (.getfield 7, 3) := by decide +kernel
theorem d_Md_rule_52 : decode m_Md_rule.2.1 52 = .ok (.iload_n 1, 1) := by decide +kernel
theorem d_Md_rule_53 : decode m_Md_rule.2.1 53 = .ok (.iconst 3, 1) := by decide +kernel
theorem d_Md_rule_54 : decode m_Md_rule.2.1 54 = .ok (.if_icmp .ne 7, 3) := by decide +kernel
theorem d_Md_rule_61 : decode m_Md_rule.2.1 61 = .ok (.iconst 2, 1) := by decide +kernel
theorem d_Md_rule_62 : decode m_Md_rule.2.1 62 = .ok (.iload_n 2, 1) := by decide +kernel
theorem d_Md_rule_63 : decode m_Md_rule.2.1 63 = .ok (.iastore, 1) := by decide +kernel
theorem d_Md_rule_64 : decode m_Md_rule.2.1 64 = .ok (.aload_n 0, 1) := by decide +kernel
theorem d_Md_rule_65 : decode m_Md_rule.2.1 65 = .ok (.iconst 0, 1) := by decide +kernel
theorem d_Md_rule_66 : decode m_Md_rule.2.1 66 = .ok (.invokevirtual 125, 3) := by decide +kernel
theorem d_Md_rule_69 : decode m_Md_rule.2.1 69 = .ok (.ireturn, 1) := by decide +kernel
theorem d_Md_rule_57 : decode m_Md_rule.2.1 57 = .ok (.iconst 1, 1) := by decide +kernel
theorem d_Md_rule_58 : decode m_Md_rule.2.1 58 = .ok (.goto 4, 3) := by decide +kernel
theorem d_Md_rule_42 : decode m_Md_rule.2.1 42 = .ok (.aload_n 0, 1) := by decide +kernel
theorem d_Md_rule_43 : decode m_Md_rule.2.1 43 = .ok (.iconst 1, 1) := by decide +kernel
theorem d_Md_rule_44 : decode m_Md_rule.2.1 44 = .ok (.invokevirtual 125, 3) := by decide +kernel
theorem d_Md_rule_47 : decode m_Md_rule.2.1 47 = .ok (.ireturn, 1) := by decide +kernel
theorem d_Md_rule_27 : decode m_Md_rule.2.1 27 = .ok (.ldc2_w 382, 3) := by decide +kernel
theorem cl_Md_382 : Cond.constantLong "MaypoleGreenModel" 382 (16) ∈ aw_T := aw_in 1757 (by decide +kernel) rfl
theorem d_Md_rule_30 : decode m_Md_rule.2.1 30 = .ok (.goto 6, 3) := by decide +kernel
theorem d_Md_rule_17 : decode m_Md_rule.2.1 17 = .ok (.lconst 0, 1) := by decide +kernel
theorem d_Md_rule_18 : decode m_Md_rule.2.1 18 = .ok (.goto 4, 3) := by decide +kernel
theorem d_Md_rule_5 : decode m_Md_rule.2.1 5 = .ok (.iload_n 1, 1) := by decide +kernel
theorem d_Md_rule_6 : decode m_Md_rule.2.1 6 = .ok (.iconst 4, 1) := by decide +kernel
theorem d_Md_rule_7 : decode m_Md_rule.2.1 7 = .ok (.if_icmp .ne 35, 3) := by decide +kernel
abbrev m_Md_bound : aw_MI := (⟨"MaypoleGreenModel", "bound", "(I)I"⟩, prog_14_method_91_code, 3, some .int)
theorem k_Md_bound : aw_K m_Md_bound 1 := ⟨aw_in 1762 (by decide +kernel) rfl, aw_in 16 (by decide +kernel) rfl, ⟨by decide, by decide, by decide +kernel⟩, by decide, by decide +kernel⟩
theorem d_Md_bound_0 : decode m_Md_bound.2.1 0 = .ok (.aload_n 0, 1) := by decide +kernel
theorem d_Md_bound_1 : decode m_Md_bound.2.1 1 = .ok (.iload_n 1, 1) := by decide +kernel
theorem d_Md_bound_2 : decode m_Md_bound.2.1 2 = .ok (.invokevirtual 313, 3) := by decide +kernel
theorem d_Md_bound_5 : decode m_Md_bound.2.1 5 = .ok (.ifCond .ne 9, 3) := by decide +kernel
theorem d_Md_bound_14 : decode m_Md_bound.2.1 14 = .ok (.iconst 0, 1) := by decide +kernel
theorem d_Md_bound_15 : decode m_Md_bound.2.1 15 = .ok (.istore_n 2, 1) := by decide +kernel
theorem d_Md_bound_8 : decode m_Md_bound.2.1 8 = .ok (.aload_n 0, 1) := by decide +kernel
theorem d_Md_bound_9 : decode m_Md_bound.2.1 9 = .ok (.iconst 1, 1) := by decide +kernel
theorem d_Md_bound_10 : decode m_Md_bound.2.1 10 = .ok (.invokevirtual 118, 3) := by decide +kernel
theorem d_Md_bound_13 : decode m_Md_bound.2.1 13 = .ok (.ireturn, 1) := by decide +kernel
theorem d_Md_bound_16 : decode m_Md_bound.2.1 16 = .ok (.iload_n 2, 1) := by decide +kernel
theorem d_Md_bound_17 : decode m_Md_bound.2.1 17 = .ok (.bipush 40, 2) := by decide +kernel
theorem d_Md_bound_19 : decode m_Md_bound.2.1 19 = .ok (.if_icmp .ge 50, 3) := by decide +kernel
theorem d_Md_bound_69 : decode m_Md_bound.2.1 69 = .ok (.aload_n 0, 1) := by decide +kernel
theorem d_Md_bound_70 : decode m_Md_bound.2.1 70 = .ok (.aload_n 0, 1) := by decide +kernel
theorem d_Md_bound_71 : decode m_Md_bound.2.1 71 = .ok (.invokevirtual 343, 3) := by decide +kernel
theorem d_Md_bound_74 : decode m_Md_bound.2.1 74 = .ok (.invokevirtual 122, 3) := by decide +kernel
theorem d_Md_bound_77 : decode m_Md_bound.2.1 77 = .ok (.ireturn, 1) := by decide +kernel
theorem d_Md_bound_22 : decode m_Md_bound.2.1 22 = .ok (.aload_n 0, 1) := by decide +kernel
theorem d_Md_bound_23 : decode m_Md_bound.2.1 23 = .ok (.getfield 50, 3) := by decide +kernel
theorem d_Md_bound_26 : decode m_Md_bound.2.1 26 = .ok (.iload_n 2, 1) := by decide +kernel
theorem d_Md_bound_27 : decode m_Md_bound.2.1 27 = .ok (.iload_n 2, 1) := by decide +kernel
theorem d_Md_bound_28 : decode m_Md_bound.2.1 28 = .ok (.aload_n 0, 1) := by decide +kernel
theorem d_Md_bound_29 : decode m_Md_bound.2.1 29 = .ok (.getfield 7, 3) := by decide +kernel
theorem d_Md_bound_32 : decode m_Md_bound.2.1 32 = .ok (.iconst 3, 1) := by decide +kernel
theorem d_Md_bound_33 : decode m_Md_bound.2.1 33 = .ok (.iaload, 1) := by decide +kernel
theorem d_Md_bound_34 : decode m_Md_bound.2.1 34 = .ok (.if_icmp .ge 27, 3) := by decide +kernel
theorem d_Md_bound_61 : decode m_Md_bound.2.1 61 = .ok (.iconst 0, 1) := by decide +kernel
theorem d_Md_bound_62 : decode m_Md_bound.2.1 62 = .ok (.bastore, 1) := by decide +kernel
theorem d_Md_bound_63 : decode m_Md_bound.2.1 63 = .ok (.iinc 2 1, 3) := by decide +kernel
theorem d_Md_bound_66 : decode m_Md_bound.2.1 66 = .ok (.goto (-50), 3) := by decide +kernel
theorem d_Md_bound_37 : decode m_Md_bound.2.1 37 = .ok (.aload_n 0, 1) := by decide +kernel
theorem d_Md_bound_38 : decode m_Md_bound.2.1 38 = .ok (.iload_n 2, 1) := by decide +kernel
theorem d_Md_bound_39 : decode m_Md_bound.2.1 39 = .ok (.iconst 2, 1) := by decide +kernel
theorem d_Md_bound_40 : decode m_Md_bound.2.1 40 = .ok (.invokevirtual 316, 3) := by decide +kernel
theorem d_Md_bound_43 : decode m_Md_bound.2.1 43 = .ok (.iload_n 1, 1) := by decide +kernel
theorem d_Md_bound_44 : decode m_Md_bound.2.1 44 = .ok (.if_icmp .eq 13, 3) := by decide +kernel
theorem d_Md_bound_57 : decode m_Md_bound.2.1 57 = .ok (.iconst 1, 1) := by decide +kernel
theorem d_Md_bound_58 : decode m_Md_bound.2.1 58 = .ok (.goto 4, 3) := by decide +kernel
theorem d_Md_bound_47 : decode m_Md_bound.2.1 47 = .ok (.aload_n 0, 1) := by decide +kernel
theorem d_Md_bound_48 : decode m_Md_bound.2.1 48 = .ok (.iload_n 2, 1) := by decide +kernel
theorem d_Md_bound_49 : decode m_Md_bound.2.1 49 = .ok (.iconst 3, 1) := by decide +kernel
theorem d_Md_bound_50 : decode m_Md_bound.2.1 50 = .ok (.invokevirtual 316, 3) := by decide +kernel
theorem d_Md_bound_53 : decode m_Md_bound.2.1 53 = .ok (.iload_n 1, 1) := by decide +kernel
theorem d_Md_bound_54 : decode m_Md_bound.2.1 54 = .ok (.if_icmp .ne 7, 3) := by decide +kernel
abbrev m_Md_homeward : aw_MI := (⟨"MaypoleGreenModel", "homeward", "()I"⟩, prog_14_method_98_code, 1, some .int)
theorem k_Md_homeward : aw_K m_Md_homeward 0 := ⟨aw_in 1766 (by decide +kernel) rfl, aw_in 16 (by decide +kernel) rfl, ⟨by decide, by decide, by decide +kernel⟩, by decide, by decide +kernel⟩
theorem d_Md_homeward_0 : decode m_Md_homeward.2.1 0 = .ok (.aload_n 0, 1) := by decide +kernel
theorem d_Md_homeward_1 : decode m_Md_homeward.2.1 1 = .ok (.invokevirtual 399, 3) := by decide +kernel
abbrev m_Md_laysHome : aw_MI := (⟨"MaypoleGreenModel", "laysHome", "()V"⟩, prog_14_method_96_code, 6, none)
theorem lk_Md_399 : Cond.methodLink "MaypoleGreenModel" 399 m_Md_laysHome.1 ∈ aw_T := aw_in 1767 (by decide +kernel) rfl
theorem k_Md_laysHome : aw_K m_Md_laysHome 0 := ⟨aw_in 1770 (by decide +kernel) rfl, aw_in 16 (by decide +kernel) rfl, ⟨by decide, by decide, by decide +kernel⟩, by decide, by decide +kernel⟩
theorem in_Md_laysHome : Cond.instanceMethod m_Md_laysHome.1 ∈ aw_T := aw_in 1769 (by decide +kernel) rfl
theorem se_Md_laysHome : Cond.selects m_Md_laysHome.1.cls m_Md_laysHome.1 m_Md_laysHome.1 ∈ aw_T := aw_inP 111 (by decide +kernel) rfl
theorem d_Md_homeward_4 : decode m_Md_homeward.2.1 4 = .ok (.aload_n 0, 1) := by decide +kernel
theorem d_Md_homeward_5 : decode m_Md_homeward.2.1 5 = .ok (.aload_n 0, 1) := by decide +kernel
theorem d_Md_homeward_6 : decode m_Md_homeward.2.1 6 = .ok (.getfield 54, 3) := by decide +kernel
theorem f_Md_54 : aw_F "MaypoleGreenModel" 54 11 28 true := ⟨cR11, cT11, 52, fun k => cY11.getD k .int, rfl, ci11, cy11, cn11, rfl, by decide, aw_in 1282 (by decide +kernel) rfl, rfl, rfl, rfl⟩
theorem d_Md_homeward_9 : decode m_Md_homeward.2.1 9 = .ok (.aload_n 0, 1) := by decide +kernel
theorem d_Md_homeward_10 : decode m_Md_homeward.2.1 10 = .ok (.invokevirtual 402, 3) := by decide +kernel
abbrev m_Md_orderNow : aw_MI := (⟨"MaypoleGreenModel", "orderNow", "()I"⟩, prog_14_method_97_code, 2, some .int)
theorem lk_Md_402 : Cond.methodLink "MaypoleGreenModel" 402 m_Md_orderNow.1 ∈ aw_T := aw_in 1787 (by decide +kernel) rfl
theorem k_Md_orderNow : aw_K m_Md_orderNow 0 := ⟨aw_in 1790 (by decide +kernel) rfl, aw_in 16 (by decide +kernel) rfl, ⟨by decide, by decide, by decide +kernel⟩, by decide, by decide +kernel⟩
theorem in_Md_orderNow : Cond.instanceMethod m_Md_orderNow.1 ∈ aw_T := aw_in 1789 (by decide +kernel) rfl
theorem se_Md_orderNow : Cond.selects m_Md_orderNow.1.cls m_Md_orderNow.1 m_Md_orderNow.1 ∈ aw_T := aw_inP 115 (by decide +kernel) rfl
theorem d_Md_homeward_13 : decode m_Md_homeward.2.1 13 = .ok (.iaload, 1) := by decide +kernel
theorem d_Md_homeward_14 : decode m_Md_homeward.2.1 14 = .ok (.invokevirtual 122, 3) := by decide +kernel
theorem d_Md_homeward_17 : decode m_Md_homeward.2.1 17 = .ok (.ireturn, 1) := by decide +kernel
theorem d_Md_laysHome_0 : decode m_Md_laysHome.2.1 0 = .ok (.aload_n 0, 1) := by decide +kernel
theorem d_Md_laysHome_1 : decode m_Md_laysHome.2.1 1 = .ok (.getfield 7, 3) := by decide +kernel
theorem d_Md_laysHome_4 : decode m_Md_laysHome.2.1 4 = .ok (.iconst 0, 1) := by decide +kernel
theorem d_Md_laysHome_5 : decode m_Md_laysHome.2.1 5 = .ok (.iaload, 1) := by decide +kernel
theorem d_Md_laysHome_6 : decode m_Md_laysHome.2.1 6 = .ok (.invokestatic 386, 3) := by decide +kernel
abbrev m_Md_ordersOf : aw_MI := (⟨"MaypoleGreenModel", "ordersOf", "(I)I"⟩, prog_14_method_93_code, 3, some .int)
theorem lk_Md_386 : Cond.methodLink "MaypoleGreenModel" 386 m_Md_ordersOf.1 ∈ aw_T := aw_in 1771 (by decide +kernel) rfl
theorem k_Md_ordersOf : aw_K m_Md_ordersOf 1 := ⟨aw_in 1773 (by decide +kernel) rfl, aw_in 16 (by decide +kernel) rfl, ⟨by decide, by decide, by decide +kernel⟩, by decide, by decide +kernel⟩
theorem st_Md_ordersOf : Cond.static m_Md_ordersOf.1 ∈ aw_T := aw_in 1772 (by decide +kernel) rfl
theorem d_Md_laysHome_9 : decode m_Md_laysHome.2.1 9 = .ok (.istore_n 1, 1) := by decide +kernel
theorem d_Md_laysHome_10 : decode m_Md_laysHome.2.1 10 = .ok (.iconst 0, 1) := by decide +kernel
theorem d_Md_laysHome_11 : decode m_Md_laysHome.2.1 11 = .ok (.istore_n 2, 1) := by decide +kernel
theorem d_Md_laysHome_12 : decode m_Md_laysHome.2.1 12 = .ok (.iload_n 2, 1) := by decide +kernel
theorem d_Md_laysHome_13 : decode m_Md_laysHome.2.1 13 = .ok (.iload_n 1, 1) := by decide +kernel
theorem d_Md_laysHome_14 : decode m_Md_laysHome.2.1 14 = .ok (.if_icmp .ge 18, 3) := by decide +kernel
theorem d_Md_laysHome_32 : decode m_Md_laysHome.2.1 32 = .ok (.aload_n 0, 1) := by decide +kernel
theorem d_Md_laysHome_33 : decode m_Md_laysHome.2.1 33 = .ok (.getfield 54, 3) := by decide +kernel
theorem d_Md_laysHome_36 : decode m_Md_laysHome.2.1 36 = .ok (.iconst 0, 1) := by decide +kernel
theorem d_Md_laysHome_37 : decode m_Md_laysHome.2.1 37 = .ok (.iconst 0, 1) := by decide +kernel
theorem d_Md_laysHome_38 : decode m_Md_laysHome.2.1 38 = .ok (.iastore, 1) := by decide +kernel
theorem d_Md_laysHome_39 : decode m_Md_laysHome.2.1 39 = .ok (.aload_n 0, 1) := by decide +kernel
theorem d_Md_laysHome_40 : decode m_Md_laysHome.2.1 40 = .ok (.getfield 57, 3) := by decide +kernel
theorem f_Md_57 : aw_F "MaypoleGreenModel" 57 11 29 true := ⟨cR11, cT11, 52, fun k => cY11.getD k .int, rfl, ci11, cy11, cn11, rfl, by decide, aw_in 1283 (by decide +kernel) rfl, rfl, rfl, rfl⟩
theorem d_Md_laysHome_43 : decode m_Md_laysHome.2.1 43 = .ok (.iconst 0, 1) := by decide +kernel
theorem d_Md_laysHome_44 : decode m_Md_laysHome.2.1 44 = .ok (.iconst 0, 1) := by decide +kernel
theorem d_Md_laysHome_45 : decode m_Md_laysHome.2.1 45 = .ok (.iastore, 1) := by decide +kernel
theorem d_Md_laysHome_46 : decode m_Md_laysHome.2.1 46 = .ok (.iconst 1, 1) := by decide +kernel
theorem d_Md_laysHome_47 : decode m_Md_laysHome.2.1 47 = .ok (.istore_n 2, 1) := by decide +kernel
theorem d_Md_laysHome_48 : decode m_Md_laysHome.2.1 48 = .ok (.iconst 0, 1) := by decide +kernel
theorem d_Md_laysHome_49 : decode m_Md_laysHome.2.1 49 = .ok (.istore_n 3, 1) := by decide +kernel
theorem d_Md_laysHome_17 : decode m_Md_laysHome.2.1 17 = .ok (.aload_n 0, 1) := by decide +kernel
theorem d_Md_laysHome_18 : decode m_Md_laysHome.2.1 18 = .ok (.getfield 54, 3) := by decide +kernel
theorem d_Md_laysHome_21 : decode m_Md_laysHome.2.1 21 = .ok (.iload_n 2, 1) := by decide +kernel
theorem d_Md_laysHome_22 : decode m_Md_laysHome.2.1 22 = .ok (.ldc_w 389, 3) := by decide +kernel
theorem cc_Md_389 : Cond.constant "MaypoleGreenModel" 389 (1000000) ∈ aw_T := aw_in 1774 (by decide +kernel) rfl
theorem d_Md_laysHome_25 : decode m_Md_laysHome.2.1 25 = .ok (.iastore, 1) := by decide +kernel
theorem d_Md_laysHome_26 : decode m_Md_laysHome.2.1 26 = .ok (.iinc 2 1, 3) := by decide +kernel
theorem d_Md_laysHome_29 : decode m_Md_laysHome.2.1 29 = .ok (.goto (-17), 3) := by decide +kernel
theorem d_Md_laysHome_50 : decode m_Md_laysHome.2.1 50 = .ok (.iload_n 3, 1) := by decide +kernel
theorem d_Md_laysHome_51 : decode m_Md_laysHome.2.1 51 = .ok (.iload_n 2, 1) := by decide +kernel
theorem d_Md_laysHome_52 : decode m_Md_laysHome.2.1 52 = .ok (.if_icmp .ge 103, 3) := by decide +kernel
theorem d_Md_laysHome_155 : decode m_Md_laysHome.2.1 155 = .ok (.return_, 1) := by decide +kernel
theorem d_Md_laysHome_55 : decode m_Md_laysHome.2.1 55 = .ok (.aload_n 0, 1) := by decide +kernel
theorem d_Md_laysHome_56 : decode m_Md_laysHome.2.1 56 = .ok (.aload_n 0, 1) := by decide +kernel
theorem d_Md_laysHome_57 : decode m_Md_laysHome.2.1 57 = .ok (.getfield 57, 3) := by decide +kernel
theorem d_Md_laysHome_60 : decode m_Md_laysHome.2.1 60 = .ok (.iload_n 3, 1) := by decide +kernel
theorem d_Md_laysHome_61 : decode m_Md_laysHome.2.1 61 = .ok (.iaload, 1) := by decide +kernel
theorem d_Md_laysHome_62 : decode m_Md_laysHome.2.1 62 = .ok (.invokevirtual 390, 3) := by decide +kernel
abbrev m_Md_laysOrder : aw_MI := (⟨"MaypoleGreenModel", "laysOrder", "(I)V"⟩, prog_14_method_94_code, 9, none)
theorem lk_Md_390 : Cond.methodLink "MaypoleGreenModel" 390 m_Md_laysOrder.1 ∈ aw_T := aw_in 1775 (by decide +kernel) rfl
theorem k_Md_laysOrder : aw_K m_Md_laysOrder 1 := ⟨aw_in 1778 (by decide +kernel) rfl, aw_in 16 (by decide +kernel) rfl, ⟨by decide, by decide, by decide +kernel⟩, by decide, by decide +kernel⟩
theorem in_Md_laysOrder : Cond.instanceMethod m_Md_laysOrder.1 ∈ aw_T := aw_in 1777 (by decide +kernel) rfl
theorem se_Md_laysOrder : Cond.selects m_Md_laysOrder.1.cls m_Md_laysOrder.1 m_Md_laysOrder.1 ∈ aw_T := aw_inP 112 (by decide +kernel) rfl
theorem d_Md_laysHome_65 : decode m_Md_laysHome.2.1 65 = .ok (.iconst 0, 1) := by decide +kernel
theorem d_Md_laysHome_66 : decode m_Md_laysHome.2.1 66 = .ok (.istore 4, 2) := by decide +kernel
theorem d_Md_laysHome_68 : decode m_Md_laysHome.2.1 68 = .ok (.iload 4, 2) := by decide +kernel
theorem d_Md_laysHome_70 : decode m_Md_laysHome.2.1 70 = .ok (.aload_n 0, 1) := by decide +kernel
theorem d_Md_laysHome_71 : decode m_Md_laysHome.2.1 71 = .ok (.iconst 0, 1) := by decide +kernel
theorem d_Md_laysHome_72 : decode m_Md_laysHome.2.1 72 = .ok (.invokevirtual 260, 3) := by decide +kernel
theorem d_Md_laysHome_75 : decode m_Md_laysHome.2.1 75 = .ok (.if_icmp .ge 74, 3) := by decide +kernel
theorem d_Md_laysHome_149 : decode m_Md_laysHome.2.1 149 = .ok (.iinc 3 1, 3) := by decide +kernel
theorem d_Md_laysHome_152 : decode m_Md_laysHome.2.1 152 = .ok (.goto (-102), 3) := by decide +kernel
theorem d_Md_laysHome_78 : decode m_Md_laysHome.2.1 78 = .ok (.aload_n 0, 1) := by decide +kernel
theorem d_Md_laysHome_79 : decode m_Md_laysHome.2.1 79 = .ok (.iload 4, 2) := by decide +kernel
theorem d_Md_laysHome_81 : decode m_Md_laysHome.2.1 81 = .ok (.invokevirtual 393, 3) := by decide +kernel
abbrev m_Md_turnsOrder : aw_MI := (⟨"MaypoleGreenModel", "turnsOrder", "(I)V"⟩, prog_14_method_95_code, 4, none)
theorem lk_Md_393 : Cond.methodLink "MaypoleGreenModel" 393 m_Md_turnsOrder.1 ∈ aw_T := aw_in 1779 (by decide +kernel) rfl
theorem k_Md_turnsOrder : aw_K m_Md_turnsOrder 1 := ⟨aw_in 1782 (by decide +kernel) rfl, aw_in 16 (by decide +kernel) rfl, ⟨by decide, by decide, by decide +kernel⟩, by decide, by decide +kernel⟩
theorem in_Md_turnsOrder : Cond.instanceMethod m_Md_turnsOrder.1 ∈ aw_T := aw_in 1781 (by decide +kernel) rfl
theorem se_Md_turnsOrder : Cond.selects m_Md_turnsOrder.1.cls m_Md_turnsOrder.1 m_Md_turnsOrder.1 ∈ aw_T := aw_inP 113 (by decide +kernel) rfl
theorem d_Md_laysHome_84 : decode m_Md_laysHome.2.1 84 = .ok (.aload_n 0, 1) := by decide +kernel
theorem d_Md_laysHome_85 : decode m_Md_laysHome.2.1 85 = .ok (.invokevirtual 396, 3) := by decide +kernel
abbrev m_Md_orderNumber : aw_MI := (⟨"MaypoleGreenModel", "orderNumber", "()I"⟩, prog_14_method_92_code, 6, some .int)
theorem lk_Md_396 : Cond.methodLink "MaypoleGreenModel" 396 m_Md_orderNumber.1 ∈ aw_T := aw_in 1783 (by decide +kernel) rfl
theorem k_Md_orderNumber : aw_K m_Md_orderNumber 0 := ⟨aw_in 1786 (by decide +kernel) rfl, aw_in 16 (by decide +kernel) rfl, ⟨by decide, by decide, by decide +kernel⟩, by decide, by decide +kernel⟩
theorem in_Md_orderNumber : Cond.instanceMethod m_Md_orderNumber.1 ∈ aw_T := aw_in 1785 (by decide +kernel) rfl
theorem se_Md_orderNumber : Cond.selects m_Md_orderNumber.1.cls m_Md_orderNumber.1 m_Md_orderNumber.1 ∈ aw_T := aw_inP 114 (by decide +kernel) rfl
theorem d_Md_laysHome_88 : decode m_Md_laysHome.2.1 88 = .ok (.istore 5, 2) := by decide +kernel
theorem d_Md_laysHome_90 : decode m_Md_laysHome.2.1 90 = .ok (.aload_n 0, 1) := by decide +kernel
theorem d_Md_laysHome_91 : decode m_Md_laysHome.2.1 91 = .ok (.iload 4, 2) := by decide +kernel
theorem d_Md_laysHome_93 : decode m_Md_laysHome.2.1 93 = .ok (.invokevirtual 393, 3) := by decide +kernel
theorem d_Md_laysHome_96 : decode m_Md_laysHome.2.1 96 = .ok (.aload_n 0, 1) := by decide +kernel
theorem d_Md_laysHome_97 : decode m_Md_laysHome.2.1 97 = .ok (.getfield 54, 3) := by decide +kernel
theorem d_Md_laysHome_100 : decode m_Md_laysHome.2.1 100 = .ok (.iload 5, 2) := by decide +kernel
theorem d_Md_laysHome_102 : decode m_Md_laysHome.2.1 102 = .ok (.iaload, 1) := by decide +kernel
theorem d_Md_laysHome_103 : decode m_Md_laysHome.2.1 103 = .ok (.ldc_w 389, 3) := by decide +kernel
theorem d_Md_laysHome_106 : decode m_Md_laysHome.2.1 106 = .ok (.if_icmp .ge 6, 3) := by decide +kernel
theorem d_Md_laysHome_112 : decode m_Md_laysHome.2.1 112 = .ok (.aload_n 0, 1) := by decide +kernel
theorem d_Md_laysHome_113 : decode m_Md_laysHome.2.1 113 = .ok (.getfield 54, 3) := by decide +kernel
theorem d_Md_laysHome_116 : decode m_Md_laysHome.2.1 116 = .ok (.iload 5, 2) := by decide +kernel
theorem d_Md_laysHome_118 : decode m_Md_laysHome.2.1 118 = .ok (.aload_n 0, 1) := by decide +kernel
theorem d_Md_laysHome_119 : decode m_Md_laysHome.2.1 119 = .ok (.getfield 54, 3) := by decide +kernel
theorem d_Md_laysHome_122 : decode m_Md_laysHome.2.1 122 = .ok (.aload_n 0, 1) := by decide +kernel
theorem d_Md_laysHome_123 : decode m_Md_laysHome.2.1 123 = .ok (.getfield 57, 3) := by decide +kernel
theorem d_Md_laysHome_126 : decode m_Md_laysHome.2.1 126 = .ok (.iload_n 3, 1) := by decide +kernel
theorem d_Md_laysHome_127 : decode m_Md_laysHome.2.1 127 = .ok (.iaload, 1) := by decide +kernel
theorem d_Md_laysHome_128 : decode m_Md_laysHome.2.1 128 = .ok (.iaload, 1) := by decide +kernel
theorem d_Md_laysHome_129 : decode m_Md_laysHome.2.1 129 = .ok (.iconst 1, 1) := by decide +kernel
theorem d_Md_laysHome_130 : decode m_Md_laysHome.2.1 130 = .ok (.iadd, 1) := by decide +kernel
theorem d_Md_laysHome_131 : decode m_Md_laysHome.2.1 131 = .ok (.iastore, 1) := by decide +kernel
theorem d_Md_laysHome_132 : decode m_Md_laysHome.2.1 132 = .ok (.aload_n 0, 1) := by decide +kernel
theorem d_Md_laysHome_133 : decode m_Md_laysHome.2.1 133 = .ok (.getfield 57, 3) := by decide +kernel
theorem d_Md_laysHome_136 : decode m_Md_laysHome.2.1 136 = .ok (.iload_n 2, 1) := by decide +kernel
theorem d_Md_laysHome_137 : decode m_Md_laysHome.2.1 137 = .ok (.iload 5, 2) := by decide +kernel
theorem d_Md_laysHome_139 : decode m_Md_laysHome.2.1 139 = .ok (.iastore, 1) := by decide +kernel
theorem d_Md_laysHome_140 : decode m_Md_laysHome.2.1 140 = .ok (.iinc 2 1, 3) := by decide +kernel
theorem d_Md_laysHome_143 : decode m_Md_laysHome.2.1 143 = .ok (.iinc 4 1, 3) := by decide +kernel
theorem d_Md_laysHome_146 : decode m_Md_laysHome.2.1 146 = .ok (.goto (-78), 3) := by decide +kernel
theorem d_Md_laysHome_109 : decode m_Md_laysHome.2.1 109 = .ok (.goto 34, 3) := by decide +kernel
theorem d_Md_ordersOf_0 : decode m_Md_ordersOf.2.1 0 = .ok (.iconst 1, 1) := by decide +kernel
theorem d_Md_ordersOf_1 : decode m_Md_ordersOf.2.1 1 = .ok (.istore_n 1, 1) := by decide +kernel
theorem d_Md_ordersOf_2 : decode m_Md_ordersOf.2.1 2 = .ok (.iconst 2, 1) := by decide +kernel
theorem d_Md_ordersOf_3 : decode m_Md_ordersOf.2.1 3 = .ok (.istore_n 2, 1) := by decide +kernel
theorem d_Md_ordersOf_4 : decode m_Md_ordersOf.2.1 4 = .ok (.iload_n 2, 1) := by decide +kernel
theorem d_Md_ordersOf_5 : decode m_Md_ordersOf.2.1 5 = .ok (.iload_n 0, 1) := by decide +kernel
theorem d_Md_ordersOf_6 : decode m_Md_ordersOf.2.1 6 = .ok (.if_icmp .gt 13, 3) := by decide +kernel
theorem d_Md_ordersOf_19 : decode m_Md_ordersOf.2.1 19 = .ok (.iload_n 1, 1) := by decide +kernel
theorem d_Md_ordersOf_20 : decode m_Md_ordersOf.2.1 20 = .ok (.ireturn, 1) := by decide +kernel
theorem d_Md_ordersOf_9 : decode m_Md_ordersOf.2.1 9 = .ok (.iload_n 1, 1) := by decide +kernel
theorem d_Md_ordersOf_10 : decode m_Md_ordersOf.2.1 10 = .ok (.iload_n 2, 1) := by decide +kernel
theorem d_Md_ordersOf_11 : decode m_Md_ordersOf.2.1 11 = .ok (.imul, 1) := by decide +kernel
theorem d_Md_ordersOf_12 : decode m_Md_ordersOf.2.1 12 = .ok (.istore_n 1, 1) := by decide +kernel
theorem d_Md_ordersOf_13 : decode m_Md_ordersOf.2.1 13 = .ok (.iinc 2 1, 3) := by decide +kernel
theorem d_Md_ordersOf_16 : decode m_Md_ordersOf.2.1 16 = .ok (.goto (-12), 3) := by decide +kernel
theorem d_Md_laysOrder_0 : decode m_Md_laysOrder.2.1 0 = .ok (.aload_n 0, 1) := by decide +kernel
theorem d_Md_laysOrder_1 : decode m_Md_laysOrder.2.1 1 = .ok (.getfield 7, 3) := by decide +kernel
theorem d_Md_laysOrder_4 : decode m_Md_laysOrder.2.1 4 = .ok (.iconst 0, 1) := by decide +kernel
theorem d_Md_laysOrder_5 : decode m_Md_laysOrder.2.1 5 = .ok (.iaload, 1) := by decide +kernel
theorem d_Md_laysOrder_6 : decode m_Md_laysOrder.2.1 6 = .ok (.istore_n 2, 1) := by decide +kernel
theorem d_Md_laysOrder_7 : decode m_Md_laysOrder.2.1 7 = .ok (.iload_n 1, 1) := by decide +kernel
theorem d_Md_laysOrder_8 : decode m_Md_laysOrder.2.1 8 = .ok (.istore_n 3, 1) := by decide +kernel
theorem d_Md_laysOrder_9 : decode m_Md_laysOrder.2.1 9 = .ok (.iconst 0, 1) := by decide +kernel
theorem d_Md_laysOrder_10 : decode m_Md_laysOrder.2.1 10 = .ok (.istore 4, 2) := by decide +kernel
theorem d_Md_laysOrder_12 : decode m_Md_laysOrder.2.1 12 = .ok (.iconst 0, 1) := by decide +kernel
theorem d_Md_laysOrder_13 : decode m_Md_laysOrder.2.1 13 = .ok (.istore 5, 2) := by decide +kernel
theorem d_Md_laysOrder_15 : decode m_Md_laysOrder.2.1 15 = .ok (.iload 5, 2) := by decide +kernel
theorem d_Md_laysOrder_17 : decode m_Md_laysOrder.2.1 17 = .ok (.iload_n 2, 1) := by decide +kernel
theorem d_Md_laysOrder_18 : decode m_Md_laysOrder.2.1 18 = .ok (.if_icmp .ge 95, 3) := by decide +kernel
theorem d_Md_laysOrder_113 : decode m_Md_laysOrder.2.1 113 = .ok (.return_, 1) := by decide +kernel
theorem d_Md_laysOrder_21 : decode m_Md_laysOrder.2.1 21 = .ok (.iload_n 2, 1) := by decide +kernel
theorem d_Md_laysOrder_22 : decode m_Md_laysOrder.2.1 22 = .ok (.iload 5, 2) := by decide +kernel
theorem d_Md_laysOrder_24 : decode m_Md_laysOrder.2.1 24 = .ok (.isub, 1) := by decide +kernel
theorem d_Md_laysOrder_25 : decode m_Md_laysOrder.2.1 25 = .ok (.iconst 1, 1) := by decide +kernel
theorem d_Md_laysOrder_26 : decode m_Md_laysOrder.2.1 26 = .ok (.isub, 1) := by decide +kernel
theorem d_Md_laysOrder_27 : decode m_Md_laysOrder.2.1 27 = .ok (.invokestatic 386, 3) := by decide +kernel
theorem d_Md_laysOrder_30 : decode m_Md_laysOrder.2.1 30 = .ok (.istore 6, 2) := by decide +kernel
theorem d_Md_laysOrder_32 : decode m_Md_laysOrder.2.1 32 = .ok (.iload_n 3, 1) := by decide +kernel
theorem d_Md_laysOrder_33 : decode m_Md_laysOrder.2.1 33 = .ok (.iload 6, 2) := by decide +kernel
theorem d_Md_laysOrder_35 : decode m_Md_laysOrder.2.1 35 = .ok (.idiv, 1) := by decide +kernel
theorem d_Md_laysOrder_36 : decode m_Md_laysOrder.2.1 36 = .ok (.istore 7, 2) := by decide +kernel
theorem d_Md_laysOrder_38 : decode m_Md_laysOrder.2.1 38 = .ok (.iload_n 3, 1) := by decide +kernel
theorem d_Md_laysOrder_39 : decode m_Md_laysOrder.2.1 39 = .ok (.iload 6, 2) := by decide +kernel
theorem d_Md_laysOrder_41 : decode m_Md_laysOrder.2.1 41 = .ok (.irem, 1) := by decide +kernel
theorem d_Md_laysOrder_42 : decode m_Md_laysOrder.2.1 42 = .ok (.istore_n 3, 1) := by decide +kernel
theorem d_Md_laysOrder_43 : decode m_Md_laysOrder.2.1 43 = .ok (.iconst 0, 1) := by decide +kernel
theorem d_Md_laysOrder_44 : decode m_Md_laysOrder.2.1 44 = .ok (.istore 8, 2) := by decide +kernel
theorem d_Md_laysOrder_46 : decode m_Md_laysOrder.2.1 46 = .ok (.aload_n 0, 1) := by decide +kernel
theorem d_Md_laysOrder_47 : decode m_Md_laysOrder.2.1 47 = .ok (.iload 4, 2) := by decide +kernel
theorem d_Md_laysOrder_49 : decode m_Md_laysOrder.2.1 49 = .ok (.iload 8, 2) := by decide +kernel
theorem d_Md_laysOrder_51 : decode m_Md_laysOrder.2.1 51 = .ok (.invokevirtual 241, 3) := by decide +kernel
theorem d_Md_laysOrder_54 : decode m_Md_laysOrder.2.1 54 = .ok (.ifCond .ne 8, 3) := by decide +kernel
theorem d_Md_laysOrder_62 : decode m_Md_laysOrder.2.1 62 = .ok (.iload 7, 2) := by decide +kernel
theorem d_Md_laysOrder_64 : decode m_Md_laysOrder.2.1 64 = .ok (.aload_n 0, 1) := by decide +kernel
theorem d_Md_laysOrder_65 : decode m_Md_laysOrder.2.1 65 = .ok (.iload 4, 2) := by decide +kernel
theorem d_Md_laysOrder_67 : decode m_Md_laysOrder.2.1 67 = .ok (.iload 8, 2) := by decide +kernel
theorem d_Md_laysOrder_69 : decode m_Md_laysOrder.2.1 69 = .ok (.invokevirtual 241, 3) := by decide +kernel
theorem d_Md_laysOrder_72 : decode m_Md_laysOrder.2.1 72 = .ok (.ifCond .eq 7, 3) := by decide +kernel
theorem d_Md_laysOrder_79 : decode m_Md_laysOrder.2.1 79 = .ok (.iconst 1, 1) := by decide +kernel
theorem d_Md_laysOrder_80 : decode m_Md_laysOrder.2.1 80 = .ok (.isub, 1) := by decide +kernel
theorem d_Md_laysOrder_81 : decode m_Md_laysOrder.2.1 81 = .ok (.istore 7, 2) := by decide +kernel
theorem d_Md_laysOrder_83 : decode m_Md_laysOrder.2.1 83 = .ok (.iinc 8 1, 3) := by decide +kernel
theorem d_Md_laysOrder_86 : decode m_Md_laysOrder.2.1 86 = .ok (.goto (-40), 3) := by decide +kernel
theorem d_Md_laysOrder_75 : decode m_Md_laysOrder.2.1 75 = .ok (.iconst 0, 1) := by decide +kernel
theorem d_Md_laysOrder_76 : decode m_Md_laysOrder.2.1 76 = .ok (.goto 4, 3) := by decide +kernel
theorem d_Md_laysOrder_57 : decode m_Md_laysOrder.2.1 57 = .ok (.iload 7, 2) := by decide +kernel
theorem d_Md_laysOrder_59 : decode m_Md_laysOrder.2.1 59 = .ok (.ifCond .le 30, 3) := by decide +kernel
theorem d_Md_laysOrder_89 : decode m_Md_laysOrder.2.1 89 = .ok (.iload 4, 2) := by decide +kernel
theorem d_Md_laysOrder_91 : decode m_Md_laysOrder.2.1 91 = .ok (.iconst 1, 1) := by decide +kernel
theorem d_Md_laysOrder_92 : decode m_Md_laysOrder.2.1 92 = .ok (.iload 8, 2) := by decide +kernel
theorem d_Md_laysOrder_94 : decode m_Md_laysOrder.2.1 94 = .ok (.ishl, 1) := by decide +kernel
theorem d_Md_laysOrder_95 : decode m_Md_laysOrder.2.1 95 = .ok (.ior, 1) := by decide +kernel
theorem d_Md_laysOrder_96 : decode m_Md_laysOrder.2.1 96 = .ok (.istore 4, 2) := by decide +kernel
theorem d_Md_laysOrder_98 : decode m_Md_laysOrder.2.1 98 = .ok (.aload_n 0, 1) := by decide +kernel
theorem d_Md_laysOrder_99 : decode m_Md_laysOrder.2.1 99 = .ok (.getfield 60, 3) := by decide +kernel
theorem f_Md_60 : aw_F "MaypoleGreenModel" 60 11 30 true := ⟨cR11, cT11, 52, fun k => cY11.getD k .int, rfl, ci11, cy11, cn11, rfl, by decide, aw_in 1284 (by decide +kernel) rfl, rfl, rfl, rfl⟩
theorem d_Md_laysOrder_102 : decode m_Md_laysOrder.2.1 102 = .ok (.iload 5, 2) := by decide +kernel
theorem d_Md_laysOrder_104 : decode m_Md_laysOrder.2.1 104 = .ok (.iload 8, 2) := by decide +kernel
theorem d_Md_laysOrder_106 : decode m_Md_laysOrder.2.1 106 = .ok (.iastore, 1) := by decide +kernel
theorem d_Md_laysOrder_107 : decode m_Md_laysOrder.2.1 107 = .ok (.iinc 5 1, 3) := by decide +kernel
theorem d_Md_laysOrder_110 : decode m_Md_laysOrder.2.1 110 = .ok (.goto (-95), 3) := by decide +kernel
theorem d_Md_turnsOrder_0 : decode m_Md_turnsOrder.2.1 0 = .ok (.iload_n 1, 1) := by decide +kernel
theorem d_Md_turnsOrder_1 : decode m_Md_turnsOrder.2.1 1 = .ok (.iconst 1, 1) := by decide +kernel
theorem d_Md_turnsOrder_2 : decode m_Md_turnsOrder.2.1 2 = .ok (.iadd, 1) := by decide +kernel
theorem d_Md_turnsOrder_3 : decode m_Md_turnsOrder.2.1 3 = .ok (.aload_n 0, 1) := by decide +kernel
theorem d_Md_turnsOrder_4 : decode m_Md_turnsOrder.2.1 4 = .ok (.getfield 7, 3) := by decide +kernel
theorem d_Md_turnsOrder_7 : decode m_Md_turnsOrder.2.1 7 = .ok (.iconst 0, 1) := by decide +kernel
theorem d_Md_turnsOrder_8 : decode m_Md_turnsOrder.2.1 8 = .ok (.iaload, 1) := by decide +kernel
theorem d_Md_turnsOrder_9 : decode m_Md_turnsOrder.2.1 9 = .ok (.irem, 1) := by decide +kernel
theorem d_Md_turnsOrder_10 : decode m_Md_turnsOrder.2.1 10 = .ok (.istore_n 2, 1) := by decide +kernel
theorem d_Md_turnsOrder_11 : decode m_Md_turnsOrder.2.1 11 = .ok (.aload_n 0, 1) := by decide +kernel
theorem d_Md_turnsOrder_12 : decode m_Md_turnsOrder.2.1 12 = .ok (.getfield 60, 3) := by decide +kernel
theorem d_Md_turnsOrder_15 : decode m_Md_turnsOrder.2.1 15 = .ok (.iload_n 1, 1) := by decide +kernel
theorem d_Md_turnsOrder_16 : decode m_Md_turnsOrder.2.1 16 = .ok (.iaload, 1) := by decide +kernel
theorem d_Md_turnsOrder_17 : decode m_Md_turnsOrder.2.1 17 = .ok (.istore_n 3, 1) := by decide +kernel
theorem d_Md_turnsOrder_18 : decode m_Md_turnsOrder.2.1 18 = .ok (.aload_n 0, 1) := by decide +kernel
theorem d_Md_turnsOrder_19 : decode m_Md_turnsOrder.2.1 19 = .ok (.getfield 60, 3) := by decide +kernel
theorem d_Md_turnsOrder_22 : decode m_Md_turnsOrder.2.1 22 = .ok (.iload_n 1, 1) := by decide +kernel
theorem d_Md_turnsOrder_23 : decode m_Md_turnsOrder.2.1 23 = .ok (.aload_n 0, 1) := by decide +kernel
theorem d_Md_turnsOrder_24 : decode m_Md_turnsOrder.2.1 24 = .ok (.getfield 60, 3) := by decide +kernel
theorem d_Md_turnsOrder_27 : decode m_Md_turnsOrder.2.1 27 = .ok (.iload_n 2, 1) := by decide +kernel
theorem d_Md_turnsOrder_28 : decode m_Md_turnsOrder.2.1 28 = .ok (.iaload, 1) := by decide +kernel
theorem d_Md_turnsOrder_29 : decode m_Md_turnsOrder.2.1 29 = .ok (.iastore, 1) := by decide +kernel
theorem d_Md_turnsOrder_30 : decode m_Md_turnsOrder.2.1 30 = .ok (.aload_n 0, 1) := by decide +kernel
theorem d_Md_turnsOrder_31 : decode m_Md_turnsOrder.2.1 31 = .ok (.getfield 60, 3) := by decide +kernel
theorem d_Md_turnsOrder_34 : decode m_Md_turnsOrder.2.1 34 = .ok (.iload_n 2, 1) := by decide +kernel
theorem d_Md_turnsOrder_35 : decode m_Md_turnsOrder.2.1 35 = .ok (.iload_n 3, 1) := by decide +kernel
theorem d_Md_turnsOrder_36 : decode m_Md_turnsOrder.2.1 36 = .ok (.iastore, 1) := by decide +kernel
theorem d_Md_turnsOrder_37 : decode m_Md_turnsOrder.2.1 37 = .ok (.return_, 1) := by decide +kernel
theorem d_Md_orderNumber_0 : decode m_Md_orderNumber.2.1 0 = .ok (.aload_n 0, 1) := by decide +kernel
theorem d_Md_orderNumber_1 : decode m_Md_orderNumber.2.1 1 = .ok (.getfield 7, 3) := by decide +kernel
theorem d_Md_orderNumber_4 : decode m_Md_orderNumber.2.1 4 = .ok (.iconst 0, 1) := by decide +kernel
theorem d_Md_orderNumber_5 : decode m_Md_orderNumber.2.1 5 = .ok (.iaload, 1) := by decide +kernel
theorem d_Md_orderNumber_6 : decode m_Md_orderNumber.2.1 6 = .ok (.istore_n 1, 1) := by decide +kernel
theorem d_Md_orderNumber_7 : decode m_Md_orderNumber.2.1 7 = .ok (.iconst 0, 1) := by decide +kernel
theorem d_Md_orderNumber_8 : decode m_Md_orderNumber.2.1 8 = .ok (.istore_n 2, 1) := by decide +kernel
theorem d_Md_orderNumber_9 : decode m_Md_orderNumber.2.1 9 = .ok (.iconst 0, 1) := by decide +kernel
theorem d_Md_orderNumber_10 : decode m_Md_orderNumber.2.1 10 = .ok (.istore_n 3, 1) := by decide +kernel
theorem d_Md_orderNumber_11 : decode m_Md_orderNumber.2.1 11 = .ok (.iload_n 3, 1) := by decide +kernel
theorem d_Md_orderNumber_12 : decode m_Md_orderNumber.2.1 12 = .ok (.iload_n 1, 1) := by decide +kernel
theorem d_Md_orderNumber_13 : decode m_Md_orderNumber.2.1 13 = .ok (.if_icmp .ge 64, 3) := by decide +kernel
theorem d_Md_orderNumber_77 : decode m_Md_orderNumber.2.1 77 = .ok (.iload_n 2, 1) := by decide +kernel
theorem d_Md_orderNumber_78 : decode m_Md_orderNumber.2.1 78 = .ok (.ireturn, 1) := by decide +kernel
theorem d_Md_orderNumber_16 : decode m_Md_orderNumber.2.1 16 = .ok (.iconst 0, 1) := by decide +kernel
theorem d_Md_orderNumber_17 : decode m_Md_orderNumber.2.1 17 = .ok (.istore 4, 2) := by decide +kernel
theorem d_Md_orderNumber_19 : decode m_Md_orderNumber.2.1 19 = .ok (.iload_n 3, 1) := by decide +kernel
theorem d_Md_orderNumber_20 : decode m_Md_orderNumber.2.1 20 = .ok (.iconst 1, 1) := by decide +kernel
theorem d_Md_orderNumber_21 : decode m_Md_orderNumber.2.1 21 = .ok (.iadd, 1) := by decide +kernel
theorem d_Md_orderNumber_22 : decode m_Md_orderNumber.2.1 22 = .ok (.istore 5, 2) := by decide +kernel
theorem d_Md_orderNumber_24 : decode m_Md_orderNumber.2.1 24 = .ok (.iload 5, 2) := by decide +kernel
theorem d_Md_orderNumber_26 : decode m_Md_orderNumber.2.1 26 = .ok (.iload_n 1, 1) := by decide +kernel
theorem d_Md_orderNumber_27 : decode m_Md_orderNumber.2.1 27 = .ok (.if_icmp .ge 35, 3) := by decide +kernel
theorem d_Md_orderNumber_62 : decode m_Md_orderNumber.2.1 62 = .ok (.iload_n 2, 1) := by decide +kernel
theorem d_Md_orderNumber_63 : decode m_Md_orderNumber.2.1 63 = .ok (.iload_n 1, 1) := by decide +kernel
theorem d_Md_orderNumber_64 : decode m_Md_orderNumber.2.1 64 = .ok (.iload_n 3, 1) := by decide +kernel
theorem d_Md_orderNumber_65 : decode m_Md_orderNumber.2.1 65 = .ok (.isub, 1) := by decide +kernel
theorem d_Md_orderNumber_66 : decode m_Md_orderNumber.2.1 66 = .ok (.imul, 1) := by decide +kernel
theorem d_Md_orderNumber_67 : decode m_Md_orderNumber.2.1 67 = .ok (.iload 4, 2) := by decide +kernel
theorem d_Md_orderNumber_69 : decode m_Md_orderNumber.2.1 69 = .ok (.iadd, 1) := by decide +kernel
theorem d_Md_orderNumber_70 : decode m_Md_orderNumber.2.1 70 = .ok (.istore_n 2, 1) := by decide +kernel
theorem d_Md_orderNumber_71 : decode m_Md_orderNumber.2.1 71 = .ok (.iinc 3 1, 3) := by decide +kernel
theorem d_Md_orderNumber_74 : decode m_Md_orderNumber.2.1 74 = .ok (.goto (-63), 3) := by decide +kernel
theorem d_Md_orderNumber_30 : decode m_Md_orderNumber.2.1 30 = .ok (.iload 4, 2) := by decide +kernel
theorem d_Md_orderNumber_32 : decode m_Md_orderNumber.2.1 32 = .ok (.aload_n 0, 1) := by decide +kernel
theorem d_Md_orderNumber_33 : decode m_Md_orderNumber.2.1 33 = .ok (.getfield 60, 3) := by decide +kernel
theorem d_Md_orderNumber_36 : decode m_Md_orderNumber.2.1 36 = .ok (.iload 5, 2) := by decide +kernel
theorem d_Md_orderNumber_38 : decode m_Md_orderNumber.2.1 38 = .ok (.iaload, 1) := by decide +kernel
theorem d_Md_orderNumber_39 : decode m_Md_orderNumber.2.1 39 = .ok (.aload_n 0, 1) := by decide +kernel
theorem d_Md_orderNumber_40 : decode m_Md_orderNumber.2.1 40 = .ok (.getfield 60, 3) := by decide +kernel
theorem d_Md_orderNumber_43 : decode m_Md_orderNumber.2.1 43 = .ok (.iload_n 3, 1) := by decide +kernel
theorem d_Md_orderNumber_44 : decode m_Md_orderNumber.2.1 44 = .ok (.iaload, 1) := by decide +kernel
theorem d_Md_orderNumber_45 : decode m_Md_orderNumber.2.1 45 = .ok (.if_icmp .ge 7, 3) := by decide +kernel
theorem d_Md_orderNumber_52 : decode m_Md_orderNumber.2.1 52 = .ok (.iconst 0, 1) := by decide +kernel
theorem d_Md_orderNumber_53 : decode m_Md_orderNumber.2.1 53 = .ok (.iadd, 1) := by decide +kernel
theorem d_Md_orderNumber_54 : decode m_Md_orderNumber.2.1 54 = .ok (.istore 4, 2) := by decide +kernel
theorem d_Md_orderNumber_56 : decode m_Md_orderNumber.2.1 56 = .ok (.iinc 5 1, 3) := by decide +kernel
theorem d_Md_orderNumber_59 : decode m_Md_orderNumber.2.1 59 = .ok (.goto (-35), 3) := by decide +kernel
theorem d_Md_orderNumber_48 : decode m_Md_orderNumber.2.1 48 = .ok (.iconst 1, 1) := by decide +kernel
theorem d_Md_orderNumber_49 : decode m_Md_orderNumber.2.1 49 = .ok (.goto 4, 3) := by decide +kernel
theorem d_Md_orderNow_0 : decode m_Md_orderNow.2.1 0 = .ok (.iconst 0, 1) := by decide +kernel
theorem d_Md_orderNow_1 : decode m_Md_orderNow.2.1 1 = .ok (.istore_n 1, 1) := by decide +kernel
theorem d_Md_orderNow_2 : decode m_Md_orderNow.2.1 2 = .ok (.iload_n 1, 1) := by decide +kernel
theorem d_Md_orderNow_3 : decode m_Md_orderNow.2.1 3 = .ok (.aload_n 0, 1) := by decide +kernel
theorem d_Md_orderNow_4 : decode m_Md_orderNow.2.1 4 = .ok (.getfield 7, 3) := by decide +kernel
theorem d_Md_orderNow_7 : decode m_Md_orderNow.2.1 7 = .ok (.iconst 0, 1) := by decide +kernel
theorem d_Md_orderNow_8 : decode m_Md_orderNow.2.1 8 = .ok (.iaload, 1) := by decide +kernel
theorem d_Md_orderNow_9 : decode m_Md_orderNow.2.1 9 = .ok (.if_icmp .ge 24, 3) := by decide +kernel
theorem d_Md_orderNow_33 : decode m_Md_orderNow.2.1 33 = .ok (.aload_n 0, 1) := by decide +kernel
theorem d_Md_orderNow_34 : decode m_Md_orderNow.2.1 34 = .ok (.invokevirtual 396, 3) := by decide +kernel
theorem d_Md_orderNow_37 : decode m_Md_orderNow.2.1 37 = .ok (.ireturn, 1) := by decide +kernel
theorem d_Md_orderNow_12 : decode m_Md_orderNow.2.1 12 = .ok (.aload_n 0, 1) := by decide +kernel
theorem d_Md_orderNow_13 : decode m_Md_orderNow.2.1 13 = .ok (.getfield 60, 3) := by decide +kernel
theorem d_Md_orderNow_16 : decode m_Md_orderNow.2.1 16 = .ok (.iload_n 1, 1) := by decide +kernel
theorem d_Md_orderNow_17 : decode m_Md_orderNow.2.1 17 = .ok (.aload_n 0, 1) := by decide +kernel
theorem d_Md_orderNow_18 : decode m_Md_orderNow.2.1 18 = .ok (.getfield 7, 3) := by decide +kernel
theorem d_Md_orderNow_21 : decode m_Md_orderNow.2.1 21 = .ok (.bipush 17, 2) := by decide +kernel
theorem d_Md_orderNow_23 : decode m_Md_orderNow.2.1 23 = .ok (.iload_n 1, 1) := by decide +kernel
theorem d_Md_orderNow_24 : decode m_Md_orderNow.2.1 24 = .ok (.iadd, 1) := by decide +kernel
theorem d_Md_orderNow_25 : decode m_Md_orderNow.2.1 25 = .ok (.iaload, 1) := by decide +kernel
theorem d_Md_orderNow_26 : decode m_Md_orderNow.2.1 26 = .ok (.iastore, 1) := by decide +kernel
theorem d_Md_orderNow_27 : decode m_Md_orderNow.2.1 27 = .ok (.iinc 1 1, 3) := by decide +kernel
theorem d_Md_orderNow_30 : decode m_Md_orderNow.2.1 30 = .ok (.goto (-28), 3) := by decide +kernel
abbrev m_Md_homewardAt : aw_MI := (⟨"MaypoleGreenModel", "homewardAt", "(I)I"⟩, prog_14_method_99_code, 6, some .int)
theorem k_Md_homewardAt : aw_K m_Md_homewardAt 1 := ⟨aw_in 1794 (by decide +kernel) rfl, aw_in 16 (by decide +kernel) rfl, ⟨by decide, by decide, by decide +kernel⟩, by decide, by decide +kernel⟩
theorem d_Md_homewardAt_0 : decode m_Md_homewardAt.2.1 0 = .ok (.iload_n 1, 1) := by decide +kernel
theorem d_Md_homewardAt_1 : decode m_Md_homewardAt.2.1 1 = .ok (.ifCond .ge 9, 3) := by decide +kernel
theorem d_Md_homewardAt_10 : decode m_Md_homewardAt.2.1 10 = .ok (.aload_n 0, 1) := by decide +kernel
theorem d_Md_homewardAt_11 : decode m_Md_homewardAt.2.1 11 = .ok (.invokevirtual 399, 3) := by decide +kernel
theorem d_Md_homewardAt_14 : decode m_Md_homewardAt.2.1 14 = .ok (.aload_n 0, 1) := by decide +kernel
theorem d_Md_homewardAt_15 : decode m_Md_homewardAt.2.1 15 = .ok (.invokevirtual 402, 3) := by decide +kernel
theorem d_Md_homewardAt_18 : decode m_Md_homewardAt.2.1 18 = .ok (.istore_n 2, 1) := by decide +kernel
theorem d_Md_homewardAt_19 : decode m_Md_homewardAt.2.1 19 = .ok (.iload_n 1, 1) := by decide +kernel
theorem d_Md_homewardAt_20 : decode m_Md_homewardAt.2.1 20 = .ok (.aload_n 0, 1) := by decide +kernel
theorem d_Md_homewardAt_21 : decode m_Md_homewardAt.2.1 21 = .ok (.getfield 54, 3) := by decide +kernel
theorem d_Md_homewardAt_24 : decode m_Md_homewardAt.2.1 24 = .ok (.iload_n 2, 1) := by decide +kernel
theorem d_Md_homewardAt_25 : decode m_Md_homewardAt.2.1 25 = .ok (.iaload, 1) := by decide +kernel
theorem d_Md_homewardAt_26 : decode m_Md_homewardAt.2.1 26 = .ok (.if_icmp .lt 10, 3) := by decide +kernel
theorem d_Md_homewardAt_36 : decode m_Md_homewardAt.2.1 36 = .ok (.iconst 0, 1) := by decide +kernel
theorem d_Md_homewardAt_37 : decode m_Md_homewardAt.2.1 37 = .ok (.istore_n 3, 1) := by decide +kernel
theorem d_Md_homewardAt_38 : decode m_Md_homewardAt.2.1 38 = .ok (.iconst 0, 1) := by decide +kernel
theorem d_Md_homewardAt_39 : decode m_Md_homewardAt.2.1 39 = .ok (.istore 4, 2) := by decide +kernel
theorem d_Md_homewardAt_29 : decode m_Md_homewardAt.2.1 29 = .ok (.aload_n 0, 1) := by decide +kernel
theorem d_Md_homewardAt_30 : decode m_Md_homewardAt.2.1 30 = .ok (.bipush 6, 2) := by decide +kernel
theorem d_Md_homewardAt_32 : decode m_Md_homewardAt.2.1 32 = .ok (.invokevirtual 118, 3) := by decide +kernel
theorem d_Md_homewardAt_35 : decode m_Md_homewardAt.2.1 35 = .ok (.ireturn, 1) := by decide +kernel
theorem d_Md_homewardAt_4 : decode m_Md_homewardAt.2.1 4 = .ok (.aload_n 0, 1) := by decide +kernel
theorem d_Md_homewardAt_5 : decode m_Md_homewardAt.2.1 5 = .ok (.iconst 1, 1) := by decide +kernel
theorem d_Md_homewardAt_6 : decode m_Md_homewardAt.2.1 6 = .ok (.invokevirtual 118, 3) := by decide +kernel
theorem d_Md_homewardAt_9 : decode m_Md_homewardAt.2.1 9 = .ok (.ireturn, 1) := by decide +kernel
theorem d_Md_homewardAt_41 : decode m_Md_homewardAt.2.1 41 = .ok (.iload 4, 2) := by decide +kernel
theorem d_Md_homewardAt_43 : decode m_Md_homewardAt.2.1 43 = .ok (.iload_n 1, 1) := by decide +kernel
theorem d_Md_homewardAt_44 : decode m_Md_homewardAt.2.1 44 = .ok (.if_icmp .gt 82, 3) := by decide +kernel
theorem d_Md_homewardAt_126 : decode m_Md_homewardAt.2.1 126 = .ok (.aload_n 0, 1) := by decide +kernel
theorem d_Md_homewardAt_127 : decode m_Md_homewardAt.2.1 127 = .ok (.iload_n 3, 1) := by decide +kernel
theorem d_Md_homewardAt_128 : decode m_Md_homewardAt.2.1 128 = .ok (.invokevirtual 122, 3) := by decide +kernel
theorem d_Md_homewardAt_131 : decode m_Md_homewardAt.2.1 131 = .ok (.ireturn, 1) := by decide +kernel
theorem d_Md_homewardAt_47 : decode m_Md_homewardAt.2.1 47 = .ok (.iconst 0, 1) := by decide +kernel
theorem d_Md_homewardAt_48 : decode m_Md_homewardAt.2.1 48 = .ok (.istore 5, 2) := by decide +kernel
theorem d_Md_homewardAt_50 : decode m_Md_homewardAt.2.1 50 = .ok (.iconst 0, 1) := by decide +kernel
theorem d_Md_homewardAt_51 : decode m_Md_homewardAt.2.1 51 = .ok (.istore_n 3, 1) := by decide +kernel
theorem d_Md_homewardAt_52 : decode m_Md_homewardAt.2.1 52 = .ok (.iload 5, 2) := by decide +kernel
theorem d_Md_homewardAt_54 : decode m_Md_homewardAt.2.1 54 = .ok (.ifCond .ne 61, 3) := by decide +kernel
theorem d_Md_homewardAt_115 : decode m_Md_homewardAt.2.1 115 = .ok (.aload_n 0, 1) := by decide +kernel
theorem d_Md_homewardAt_116 : decode m_Md_homewardAt.2.1 116 = .ok (.invokevirtual 396, 3) := by decide +kernel
theorem d_Md_homewardAt_119 : decode m_Md_homewardAt.2.1 119 = .ok (.istore_n 2, 1) := by decide +kernel
theorem d_Md_homewardAt_120 : decode m_Md_homewardAt.2.1 120 = .ok (.iinc 4 1, 3) := by decide +kernel
theorem d_Md_homewardAt_123 : decode m_Md_homewardAt.2.1 123 = .ok (.goto (-82), 3) := by decide +kernel
theorem d_Md_homewardAt_57 : decode m_Md_homewardAt.2.1 57 = .ok (.aload_n 0, 1) := by decide +kernel
theorem d_Md_homewardAt_58 : decode m_Md_homewardAt.2.1 58 = .ok (.iload_n 3, 1) := by decide +kernel
theorem d_Md_homewardAt_59 : decode m_Md_homewardAt.2.1 59 = .ok (.invokevirtual 393, 3) := by decide +kernel
theorem d_Md_homewardAt_62 : decode m_Md_homewardAt.2.1 62 = .ok (.aload_n 0, 1) := by decide +kernel
theorem d_Md_homewardAt_63 : decode m_Md_homewardAt.2.1 63 = .ok (.getfield 54, 3) := by decide +kernel
theorem d_Md_homewardAt_66 : decode m_Md_homewardAt.2.1 66 = .ok (.aload_n 0, 1) := by decide +kernel
theorem d_Md_homewardAt_67 : decode m_Md_homewardAt.2.1 67 = .ok (.invokevirtual 396, 3) := by decide +kernel
theorem d_Md_homewardAt_70 : decode m_Md_homewardAt.2.1 70 = .ok (.iaload, 1) := by decide +kernel
theorem d_Md_homewardAt_71 : decode m_Md_homewardAt.2.1 71 = .ok (.aload_n 0, 1) := by decide +kernel
theorem d_Md_homewardAt_72 : decode m_Md_homewardAt.2.1 72 = .ok (.getfield 54, 3) := by decide +kernel
theorem d_Md_homewardAt_75 : decode m_Md_homewardAt.2.1 75 = .ok (.iload_n 2, 1) := by decide +kernel
theorem d_Md_homewardAt_76 : decode m_Md_homewardAt.2.1 76 = .ok (.iaload, 1) := by decide +kernel
theorem d_Md_homewardAt_77 : decode m_Md_homewardAt.2.1 77 = .ok (.iconst 1, 1) := by decide +kernel
theorem d_Md_homewardAt_78 : decode m_Md_homewardAt.2.1 78 = .ok (.isub, 1) := by decide +kernel
theorem d_Md_homewardAt_79 : decode m_Md_homewardAt.2.1 79 = .ok (.if_icmp .ne 7, 3) := by decide +kernel
theorem d_Md_homewardAt_86 : decode m_Md_homewardAt.2.1 86 = .ok (.iconst 0, 1) := by decide +kernel
theorem d_Md_homewardAt_87 : decode m_Md_homewardAt.2.1 87 = .ok (.istore 5, 2) := by decide +kernel
theorem d_Md_homewardAt_89 : decode m_Md_homewardAt.2.1 89 = .ok (.iload 5, 2) := by decide +kernel
theorem d_Md_homewardAt_91 : decode m_Md_homewardAt.2.1 91 = .ok (.ifCond .ne 8, 3) := by decide +kernel
theorem d_Md_homewardAt_94 : decode m_Md_homewardAt.2.1 94 = .ok (.aload_n 0, 1) := by decide +kernel
theorem d_Md_homewardAt_95 : decode m_Md_homewardAt.2.1 95 = .ok (.iload_n 3, 1) := by decide +kernel
theorem d_Md_homewardAt_96 : decode m_Md_homewardAt.2.1 96 = .ok (.invokevirtual 393, 3) := by decide +kernel
theorem d_Md_homewardAt_99 : decode m_Md_homewardAt.2.1 99 = .ok (.iload_n 3, 1) := by decide +kernel
theorem d_Md_homewardAt_100 : decode m_Md_homewardAt.2.1 100 = .ok (.iload 5, 2) := by decide +kernel
theorem d_Md_homewardAt_102 : decode m_Md_homewardAt.2.1 102 = .ok (.ifCond .eq 7, 3) := by decide +kernel
theorem d_Md_homewardAt_109 : decode m_Md_homewardAt.2.1 109 = .ok (.iconst 1, 1) := by decide +kernel
theorem d_Md_homewardAt_110 : decode m_Md_homewardAt.2.1 110 = .ok (.iadd, 1) := by decide +kernel
theorem d_Md_homewardAt_111 : decode m_Md_homewardAt.2.1 111 = .ok (.istore_n 3, 1) := by decide +kernel
theorem d_Md_homewardAt_112 : decode m_Md_homewardAt.2.1 112 = .ok (.goto (-60), 3) := by decide +kernel
theorem d_Md_homewardAt_82 : decode m_Md_homewardAt.2.1 82 = .ok (.iconst 1, 1) := by decide +kernel
theorem d_Md_homewardAt_83 : decode m_Md_homewardAt.2.1 83 = .ok (.goto 4, 3) := by decide +kernel
theorem d_Md_homewardAt_105 : decode m_Md_homewardAt.2.1 105 = .ok (.iconst 0, 1) := by decide +kernel
theorem d_Md_homewardAt_106 : decode m_Md_homewardAt.2.1 106 = .ok (.goto 4, 3) := by decide +kernel
abbrev m_Md_meet : aw_MI := (⟨"MaypoleGreenModel", "meet", "(II)I"⟩, prog_14_method_100_code, 5, some .int)
theorem k_Md_meet : aw_K m_Md_meet 2 := ⟨aw_in 1798 (by decide +kernel) rfl, aw_in 16 (by decide +kernel) rfl, ⟨by decide, by decide, by decide +kernel⟩, by decide, by decide +kernel⟩
theorem d_Md_meet_0 : decode m_Md_meet.2.1 0 = .ok (.aload_n 0, 1) := by decide +kernel
theorem d_Md_meet_1 : decode m_Md_meet.2.1 1 = .ok (.iload_n 1, 1) := by decide +kernel
theorem d_Md_meet_2 : decode m_Md_meet.2.1 2 = .ok (.iload_n 2, 1) := by decide +kernel
theorem d_Md_meet_3 : decode m_Md_meet.2.1 3 = .ok (.invokevirtual 379, 3) := by decide +kernel
theorem d_Md_meet_6 : decode m_Md_meet.2.1 6 = .ok (.ifCond .ne 9, 3) := by decide +kernel
theorem d_Md_meet_15 : decode m_Md_meet.2.1 15 = .ok (.aload_n 0, 1) := by decide +kernel
theorem d_Md_meet_16 : decode m_Md_meet.2.1 16 = .ok (.getfield 7, 3) := by decide +kernel
theorem d_Md_meet_19 : decode m_Md_meet.2.1 19 = .ok (.iconst 0, 1) := by decide +kernel
theorem d_Md_meet_20 : decode m_Md_meet.2.1 20 = .ok (.iaload, 1) := by decide +kernel
theorem d_Md_meet_21 : decode m_Md_meet.2.1 21 = .ok (.istore_n 3, 1) := by decide +kernel
theorem d_Md_meet_22 : decode m_Md_meet.2.1 22 = .ok (.aload_n 0, 1) := by decide +kernel
theorem d_Md_meet_23 : decode m_Md_meet.2.1 23 = .ok (.iload_n 1, 1) := by decide +kernel
theorem d_Md_meet_24 : decode m_Md_meet.2.1 24 = .ok (.invokevirtual 337, 3) := by decide +kernel
theorem d_Md_meet_27 : decode m_Md_meet.2.1 27 = .ok (.aload_n 0, 1) := by decide +kernel
theorem d_Md_meet_28 : decode m_Md_meet.2.1 28 = .ok (.iload_n 2, 1) := by decide +kernel
theorem d_Md_meet_29 : decode m_Md_meet.2.1 29 = .ok (.invokevirtual 337, 3) := by decide +kernel
theorem d_Md_meet_32 : decode m_Md_meet.2.1 32 = .ok (.isub, 1) := by decide +kernel
theorem d_Md_meet_33 : decode m_Md_meet.2.1 33 = .ok (.iload_n 3, 1) := by decide +kernel
theorem d_Md_meet_34 : decode m_Md_meet.2.1 34 = .ok (.iadd, 1) := by decide +kernel
theorem d_Md_meet_35 : decode m_Md_meet.2.1 35 = .ok (.iload_n 3, 1) := by decide +kernel
theorem d_Md_meet_36 : decode m_Md_meet.2.1 36 = .ok (.irem, 1) := by decide +kernel
theorem d_Md_meet_37 : decode m_Md_meet.2.1 37 = .ok (.istore 4, 2) := by decide +kernel
theorem d_Md_meet_39 : decode m_Md_meet.2.1 39 = .ok (.aload_n 0, 1) := by decide +kernel
theorem d_Md_meet_40 : decode m_Md_meet.2.1 40 = .ok (.iload 4, 2) := by decide +kernel
theorem d_Md_meet_42 : decode m_Md_meet.2.1 42 = .ok (.iload_n 3, 1) := by decide +kernel
theorem d_Md_meet_43 : decode m_Md_meet.2.1 43 = .ok (.iload 4, 2) := by decide +kernel
theorem d_Md_meet_45 : decode m_Md_meet.2.1 45 = .ok (.isub, 1) := by decide +kernel
theorem d_Md_meet_46 : decode m_Md_meet.2.1 46 = .ok (.invokestatic 173, 3) := by decide +kernel
theorem d_Md_meet_49 : decode m_Md_meet.2.1 49 = .ok (.iconst 1, 1) := by decide +kernel
theorem d_Md_meet_50 : decode m_Md_meet.2.1 50 = .ok (.isub, 1) := by decide +kernel
theorem d_Md_meet_51 : decode m_Md_meet.2.1 51 = .ok (.invokevirtual 122, 3) := by decide +kernel
theorem d_Md_meet_54 : decode m_Md_meet.2.1 54 = .ok (.ireturn, 1) := by decide +kernel
theorem d_Md_meet_9 : decode m_Md_meet.2.1 9 = .ok (.aload_n 0, 1) := by decide +kernel
theorem d_Md_meet_10 : decode m_Md_meet.2.1 10 = .ok (.iconst 1, 1) := by decide +kernel
theorem d_Md_meet_11 : decode m_Md_meet.2.1 11 = .ok (.invokevirtual 118, 3) := by decide +kernel
theorem d_Md_meet_14 : decode m_Md_meet.2.1 14 = .ok (.ireturn, 1) := by decide +kernel
abbrev m_Md_same : aw_MI := (⟨"MaypoleGreenModel", "same", "(II)I"⟩, prog_14_method_107_code, 4, some .int)
theorem k_Md_same : aw_K m_Md_same 2 := ⟨aw_in 1802 (by decide +kernel) rfl, aw_in 16 (by decide +kernel) rfl, ⟨by decide, by decide, by decide +kernel⟩, by decide, by decide +kernel⟩
theorem d_Md_same_0 : decode m_Md_same.2.1 0 = .ok (.aload_n 0, 1) := by decide +kernel
theorem d_Md_same_1 : decode m_Md_same.2.1 1 = .ok (.iload_n 1, 1) := by decide +kernel
theorem d_Md_same_2 : decode m_Md_same.2.1 2 = .ok (.iload_n 2, 1) := by decide +kernel
theorem d_Md_same_3 : decode m_Md_same.2.1 3 = .ok (.invokevirtual 420, 3) := by decide +kernel
abbrev m_Md_wrongDance : aw_MI := (⟨"MaypoleGreenModel", "wrongDance", "(II)I"⟩, prog_14_method_101_code, 4, some .int)
theorem lk_Md_420 : Cond.methodLink "MaypoleGreenModel" 420 m_Md_wrongDance.1 ∈ aw_T := aw_in 1803 (by decide +kernel) rfl
theorem k_Md_wrongDance : aw_K m_Md_wrongDance 2 := ⟨aw_in 1806 (by decide +kernel) rfl, aw_in 16 (by decide +kernel) rfl, ⟨by decide, by decide, by decide +kernel⟩, by decide, by decide +kernel⟩
theorem in_Md_wrongDance : Cond.instanceMethod m_Md_wrongDance.1 ∈ aw_T := aw_in 1805 (by decide +kernel) rfl
theorem se_Md_wrongDance : Cond.selects m_Md_wrongDance.1.cls m_Md_wrongDance.1 m_Md_wrongDance.1 ∈ aw_T := aw_inP 116 (by decide +kernel) rfl
theorem d_Md_same_6 : decode m_Md_same.2.1 6 = .ok (.istore_n 3, 1) := by decide +kernel
theorem d_Md_same_7 : decode m_Md_same.2.1 7 = .ok (.iload_n 3, 1) := by decide +kernel
theorem d_Md_same_8 : decode m_Md_same.2.1 8 = .ok (.ifCond .le 9, 3) := by decide +kernel
theorem d_Md_same_17 : decode m_Md_same.2.1 17 = .ok (.aload_n 0, 1) := by decide +kernel
theorem d_Md_same_18 : decode m_Md_same.2.1 18 = .ok (.iload_n 1, 1) := by decide +kernel
theorem d_Md_same_19 : decode m_Md_same.2.1 19 = .ok (.iload_n 2, 1) := by decide +kernel
theorem d_Md_same_20 : decode m_Md_same.2.1 20 = .ok (.iconst (-1), 1) := by decide +kernel
theorem d_Md_same_21 : decode m_Md_same.2.1 21 = .ok (.invokevirtual 423, 3) := by decide +kernel
abbrev m_Md_laysDance : aw_MI := (⟨"MaypoleGreenModel", "laysDance", "(III)V"⟩, prog_14_method_103_code, 6, none)
theorem lk_Md_423 : Cond.methodLink "MaypoleGreenModel" 423 m_Md_laysDance.1 ∈ aw_T := aw_in 1808 (by decide +kernel) rfl
theorem k_Md_laysDance : aw_K m_Md_laysDance 3 := ⟨aw_in 1811 (by decide +kernel) rfl, aw_in 16 (by decide +kernel) rfl, ⟨by decide, by decide, by decide +kernel⟩, by decide, by decide +kernel⟩
theorem in_Md_laysDance : Cond.instanceMethod m_Md_laysDance.1 ∈ aw_T := aw_in 1810 (by decide +kernel) rfl
theorem se_Md_laysDance : Cond.selects m_Md_laysDance.1.cls m_Md_laysDance.1 m_Md_laysDance.1 ∈ aw_T := aw_inP 117 (by decide +kernel) rfl
theorem d_Md_same_24 : decode m_Md_same.2.1 24 = .ok (.aload_n 0, 1) := by decide +kernel
theorem d_Md_same_25 : decode m_Md_same.2.1 25 = .ok (.aload_n 0, 1) := by decide +kernel
theorem d_Md_same_26 : decode m_Md_same.2.1 26 = .ok (.invokevirtual 427, 3) := by decide +kernel
abbrev m_Md_apartNow : aw_MI := (⟨"MaypoleGreenModel", "apartNow", "()I"⟩, prog_14_method_106_code, 1, some .int)
theorem lk_Md_427 : Cond.methodLink "MaypoleGreenModel" 427 m_Md_apartNow.1 ∈ aw_T := aw_in 1816 (by decide +kernel) rfl
theorem k_Md_apartNow : aw_K m_Md_apartNow 0 := ⟨aw_in 1819 (by decide +kernel) rfl, aw_in 16 (by decide +kernel) rfl, ⟨by decide, by decide, by decide +kernel⟩, by decide, by decide +kernel⟩
theorem in_Md_apartNow : Cond.instanceMethod m_Md_apartNow.1 ∈ aw_T := aw_in 1818 (by decide +kernel) rfl
theorem se_Md_apartNow : Cond.selects m_Md_apartNow.1.cls m_Md_apartNow.1 m_Md_apartNow.1 ∈ aw_T := aw_inP 119 (by decide +kernel) rfl
theorem d_Md_same_29 : decode m_Md_same.2.1 29 = .ok (.ifCond .ne 7, 3) := by decide +kernel
theorem d_Md_same_36 : decode m_Md_same.2.1 36 = .ok (.iconst 0, 1) := by decide +kernel
theorem d_Md_same_37 : decode m_Md_same.2.1 37 = .ok (.invokevirtual 122, 3) := by decide +kernel
theorem d_Md_same_40 : decode m_Md_same.2.1 40 = .ok (.ireturn, 1) := by decide +kernel
theorem d_Md_same_32 : decode m_Md_same.2.1 32 = .ok (.iconst 1, 1) := by decide +kernel
theorem d_Md_same_33 : decode m_Md_same.2.1 33 = .ok (.goto 4, 3) := by decide +kernel
theorem d_Md_same_11 : decode m_Md_same.2.1 11 = .ok (.aload_n 0, 1) := by decide +kernel
theorem d_Md_same_12 : decode m_Md_same.2.1 12 = .ok (.iload_n 3, 1) := by decide +kernel
theorem d_Md_same_13 : decode m_Md_same.2.1 13 = .ok (.invokevirtual 118, 3) := by decide +kernel
theorem d_Md_same_16 : decode m_Md_same.2.1 16 = .ok (.ireturn, 1) := by decide +kernel
