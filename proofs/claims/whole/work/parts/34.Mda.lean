theorem d_Md_ordersOf_0 : decode m_Md_ordersOf.2.1 0 = .ok (.iconst 1, 1) := by decide +kernel
theorem d_Md_ordersOf_1 : decode m_Md_ordersOf.2.1 1 = .ok (.istore_n 1, 1) := by decide +kernel
theorem d_Md_ordersOf_2 : decode m_Md_ordersOf.2.1 2 = .ok (.iconst 2, 1) := by decide +kernel
theorem d_Md_ordersOf_3 : decode m_Md_ordersOf.2.1 3 = .ok (.istore_n 2, 1) := by decide +kernel
theorem d_Md_ordersOf_4 : decode m_Md_ordersOf.2.1 4 = .ok (.iload_n 2, 1) := by decide +kernel
theorem d_Md_ordersOf_5 : decode m_Md_ordersOf.2.1 5 = .ok (.iload_n 0, 1) := by decide +kernel
theorem d_Md_ordersOf_6 : decode m_Md_ordersOf.2.1 6 = .ok (.if_icmp .gt 13, 3) := by decide +kernel
theorem d_Md_ordersOf_19 : decode m_Md_ordersOf.2.1 19 = .ok (.iload_n 1, 1) := by decide +kernel
theorem d_Md_ordersOf_20 : decode m_Md_ordersOf.2.1 20 = .ok (.ireturn, 1) := by decide +kernel
theorem d_Md_ordersOf_9 : decode m_Md_ordersOf.2.1 9 = .ok (.iload_n 1, 1) := by decide +kernel
theorem d_Md_ordersOf_10 : decode m_Md_ordersOf.2.1 10 = .ok (.iload_n 2, 1) := by decide +kernel
theorem d_Md_ordersOf_11 : decode m_Md_ordersOf.2.1 11 = .ok (.imul, 1) := by decide +kernel
theorem d_Md_ordersOf_12 : decode m_Md_ordersOf.2.1 12 = .ok (.istore_n 1, 1) := by decide +kernel
theorem d_Md_ordersOf_13 : decode m_Md_ordersOf.2.1 13 = .ok (.iinc 2 1, 3) := by decide +kernel
theorem d_Md_ordersOf_16 : decode m_Md_ordersOf.2.1 16 = .ok (.goto (-12), 3) := by decide +kernel
theorem d_Md_laysOrder_0 : decode m_Md_laysOrder.2.1 0 = .ok (.aload_n 0, 1) := by decide +kernel
theorem d_Md_laysOrder_1 : decode m_Md_laysOrder.2.1 1 = .ok (.getfield 7, 3) := by decide +kernel
theorem d_Md_laysOrder_4 : decode m_Md_laysOrder.2.1 4 = .ok (.iconst 0, 1) := by decide +kernel
theorem d_Md_laysOrder_5 : decode m_Md_laysOrder.2.1 5 = .ok (.iaload, 1) := by decide +kernel
theorem d_Md_laysOrder_6 : decode m_Md_laysOrder.2.1 6 = .ok (.istore_n 2, 1) := by decide +kernel
theorem d_Md_laysOrder_7 : decode m_Md_laysOrder.2.1 7 = .ok (.iload_n 1, 1) := by decide +kernel
theorem d_Md_laysOrder_8 : decode m_Md_laysOrder.2.1 8 = .ok (.istore_n 3, 1) := by decide +kernel
theorem d_Md_laysOrder_9 : decode m_Md_laysOrder.2.1 9 = .ok (.iconst 0, 1) := by decide +kernel
theorem d_Md_laysOrder_10 : decode m_Md_laysOrder.2.1 10 = .ok (.istore 4, 2) := by decide +kernel
theorem d_Md_laysOrder_12 : decode m_Md_laysOrder.2.1 12 = .ok (.iconst 0, 1) := by decide +kernel
theorem d_Md_laysOrder_13 : decode m_Md_laysOrder.2.1 13 = .ok (.istore 5, 2) := by decide +kernel
theorem d_Md_laysOrder_15 : decode m_Md_laysOrder.2.1 15 = .ok (.iload 5, 2) := by decide +kernel
theorem d_Md_laysOrder_17 : decode m_Md_laysOrder.2.1 17 = .ok (.iload_n 2, 1) := by decide +kernel
theorem d_Md_laysOrder_18 : decode m_Md_laysOrder.2.1 18 = .ok (.if_icmp .ge 95, 3) := by decide +kernel
theorem d_Md_laysOrder_113 : decode m_Md_laysOrder.2.1 113 = .ok (.return_, 1) := by decide +kernel
theorem d_Md_laysOrder_21 : decode m_Md_laysOrder.2.1 21 = .ok (.iload_n 2, 1) := by decide +kernel
theorem d_Md_laysOrder_22 : decode m_Md_laysOrder.2.1 22 = .ok (.iload 5, 2) := by decide +kernel
theorem d_Md_laysOrder_24 : decode m_Md_laysOrder.2.1 24 = .ok (.isub, 1) := by decide +kernel
theorem d_Md_laysOrder_25 : decode m_Md_laysOrder.2.1 25 = .ok (.iconst 1, 1) := by decide +kernel
theorem d_Md_laysOrder_26 : decode m_Md_laysOrder.2.1 26 = .ok (.isub, 1) := by decide +kernel
theorem d_Md_laysOrder_27 : decode m_Md_laysOrder.2.1 27 = .ok (.invokestatic 386, 3) := by decide +kernel
theorem d_Md_laysOrder_30 : decode m_Md_laysOrder.2.1 30 = .ok (.istore 6, 2) := by decide +kernel
theorem d_Md_laysOrder_32 : decode m_Md_laysOrder.2.1 32 = .ok (.iload_n 3, 1) := by decide +kernel
theorem d_Md_laysOrder_33 : decode m_Md_laysOrder.2.1 33 = .ok (.iload 6, 2) := by decide +kernel
theorem d_Md_laysOrder_35 : decode m_Md_laysOrder.2.1 35 = .ok (.idiv, 1) := by decide +kernel
theorem d_Md_laysOrder_36 : decode m_Md_laysOrder.2.1 36 = .ok (.istore 7, 2) := by decide +kernel
theorem d_Md_laysOrder_38 : decode m_Md_laysOrder.2.1 38 = .ok (.iload_n 3, 1) := by decide +kernel
theorem d_Md_laysOrder_39 : decode m_Md_laysOrder.2.1 39 = .ok (.iload 6, 2) := by decide +kernel
theorem d_Md_laysOrder_41 : decode m_Md_laysOrder.2.1 41 = .ok (.irem, 1) := by decide +kernel
theorem d_Md_laysOrder_42 : decode m_Md_laysOrder.2.1 42 = .ok (.istore_n 3, 1) := by decide +kernel
theorem d_Md_laysOrder_43 : decode m_Md_laysOrder.2.1 43 = .ok (.iconst 0, 1) := by decide +kernel
theorem d_Md_laysOrder_44 : decode m_Md_laysOrder.2.1 44 = .ok (.istore 8, 2) := by decide +kernel
theorem d_Md_laysOrder_46 : decode m_Md_laysOrder.2.1 46 = .ok (.aload_n 0, 1) := by decide +kernel
theorem d_Md_laysOrder_47 : decode m_Md_laysOrder.2.1 47 = .ok (.iload 4, 2) := by decide +kernel
theorem d_Md_laysOrder_49 : decode m_Md_laysOrder.2.1 49 = .ok (.iload 8, 2) := by decide +kernel
theorem d_Md_laysOrder_51 : decode m_Md_laysOrder.2.1 51 = .ok (.invokevirtual 241, 3) := by decide +kernel
theorem d_Md_laysOrder_54 : decode m_Md_laysOrder.2.1 54 = .ok (.ifCond .ne 8, 3) := by decide +kernel
theorem d_Md_laysOrder_62 : decode m_Md_laysOrder.2.1 62 = .ok (.iload 7, 2) := by decide +kernel
theorem d_Md_laysOrder_64 : decode m_Md_laysOrder.2.1 64 = .ok (.aload_n 0, 1) := by decide +kernel
theorem d_Md_laysOrder_65 : decode m_Md_laysOrder.2.1 65 = .ok (.iload 4, 2) := by decide +kernel
theorem d_Md_laysOrder_67 : decode m_Md_laysOrder.2.1 67 = .ok (.iload 8, 2) := by decide +kernel
theorem d_Md_laysOrder_69 : decode m_Md_laysOrder.2.1 69 = .ok (.invokevirtual 241, 3) := by decide +kernel
theorem d_Md_laysOrder_72 : decode m_Md_laysOrder.2.1 72 = .ok (.ifCond .eq 7, 3) := by decide +kernel
theorem d_Md_laysOrder_79 : decode m_Md_laysOrder.2.1 79 = .ok (.iconst 1, 1) := by decide +kernel
theorem d_Md_laysOrder_80 : decode m_Md_laysOrder.2.1 80 = .ok (.isub, 1) := by decide +kernel
theorem d_Md_laysOrder_81 : decode m_Md_laysOrder.2.1 81 = .ok (.istore 7, 2) := by decide +kernel
theorem d_Md_laysOrder_83 : decode m_Md_laysOrder.2.1 83 = .ok (.iinc 8 1, 3) := by decide +kernel
theorem d_Md_laysOrder_86 : decode m_Md_laysOrder.2.1 86 = .ok (.goto (-40), 3) := by decide +kernel
theorem d_Md_laysOrder_75 : decode m_Md_laysOrder.2.1 75 = .ok (.iconst 0, 1) := by decide +kernel
theorem d_Md_laysOrder_76 : decode m_Md_laysOrder.2.1 76 = .ok (.goto 4, 3) := by decide +kernel
theorem d_Md_laysOrder_57 : decode m_Md_laysOrder.2.1 57 = .ok (.iload 7, 2) := by decide +kernel
theorem d_Md_laysOrder_59 : decode m_Md_laysOrder.2.1 59 = .ok (.ifCond .le 30, 3) := by decide +kernel
theorem d_Md_laysOrder_89 : decode m_Md_laysOrder.2.1 89 = .ok (.iload 4, 2) := by decide +kernel
theorem d_Md_laysOrder_91 : decode m_Md_laysOrder.2.1 91 = .ok (.iconst 1, 1) := by decide +kernel
theorem d_Md_laysOrder_92 : decode m_Md_laysOrder.2.1 92 = .ok (.iload 8, 2) := by decide +kernel
theorem d_Md_laysOrder_94 : decode m_Md_laysOrder.2.1 94 = .ok (.ishl, 1) := by decide +kernel
theorem d_Md_laysOrder_95 : decode m_Md_laysOrder.2.1 95 = .ok (.ior, 1) := by decide +kernel
theorem d_Md_laysOrder_96 : decode m_Md_laysOrder.2.1 96 = .ok (.istore 4, 2) := by decide +kernel
theorem d_Md_laysOrder_98 : decode m_Md_laysOrder.2.1 98 = .ok (.aload_n 0, 1) := by decide +kernel
theorem d_Md_laysOrder_99 : decode m_Md_laysOrder.2.1 99 = .ok (.getfield 60, 3) := by decide +kernel
theorem f_Md_60 : aw_F "MaypoleGreenModel" 60 11 30 true := ⟨cR11, cT11, 52, fun k => cY11.getD k .int, rfl, ci11, cy11, cn11, rfl, by decide, aw_in 1285 (by decide +kernel) rfl, rfl, rfl, rfl⟩
theorem d_Md_laysOrder_102 : decode m_Md_laysOrder.2.1 102 = .ok (.iload 5, 2) := by decide +kernel
theorem d_Md_laysOrder_104 : decode m_Md_laysOrder.2.1 104 = .ok (.iload 8, 2) := by decide +kernel
theorem d_Md_laysOrder_106 : decode m_Md_laysOrder.2.1 106 = .ok (.iastore, 1) := by decide +kernel
theorem d_Md_laysOrder_107 : decode m_Md_laysOrder.2.1 107 = .ok (.iinc 5 1, 3) := by decide +kernel
theorem d_Md_laysOrder_110 : decode m_Md_laysOrder.2.1 110 = .ok (.goto (-95), 3) := by decide +kernel
theorem d_Md_turnsOrder_0 : decode m_Md_turnsOrder.2.1 0 = .ok (.iload_n 1, 1) := by decide +kernel
theorem d_Md_turnsOrder_1 : decode m_Md_turnsOrder.2.1 1 = .ok (.iconst 1, 1) := by decide +kernel
theorem d_Md_turnsOrder_2 : decode m_Md_turnsOrder.2.1 2 = .ok (.iadd, 1) := by decide +kernel
theorem d_Md_turnsOrder_3 : decode m_Md_turnsOrder.2.1 3 = .ok (.aload_n 0, 1) := by decide +kernel
theorem d_Md_turnsOrder_4 : decode m_Md_turnsOrder.2.1 4 = .ok (.getfield 7, 3) := by decide +kernel
theorem d_Md_turnsOrder_7 : decode m_Md_turnsOrder.2.1 7 = .ok (.iconst 0, 1) := by decide +kernel
theorem d_Md_turnsOrder_8 : decode m_Md_turnsOrder.2.1 8 = .ok (.iaload, 1) := by decide +kernel
theorem d_Md_turnsOrder_9 : decode m_Md_turnsOrder.2.1 9 = .ok (.irem, 1) := by decide +kernel
theorem d_Md_turnsOrder_10 : decode m_Md_turnsOrder.2.1 10 = .ok (.istore_n 2, 1) := by decide +kernel
theorem d_Md_turnsOrder_11 : decode m_Md_turnsOrder.2.1 11 = .ok (.aload_n 0, 1) := by decide +kernel
theorem d_Md_turnsOrder_12 : decode m_Md_turnsOrder.2.1 12 = .ok (.getfield 60, 3) := by decide +kernel
theorem d_Md_turnsOrder_15 : decode m_Md_turnsOrder.2.1 15 = .ok (.iload_n 1, 1) := by decide +kernel
theorem d_Md_turnsOrder_16 : decode m_Md_turnsOrder.2.1 16 = .ok (.iaload, 1) := by decide +kernel
theorem d_Md_turnsOrder_17 : decode m_Md_turnsOrder.2.1 17 = .ok (.istore_n 3, 1) := by decide +kernel
theorem d_Md_turnsOrder_18 : decode m_Md_turnsOrder.2.1 18 = .ok (.aload_n 0, 1) := by decide +kernel
theorem d_Md_turnsOrder_19 : decode m_Md_turnsOrder.2.1 19 = .ok (.getfield 60, 3) := by decide +kernel
theorem d_Md_turnsOrder_22 : decode m_Md_turnsOrder.2.1 22 = .ok (.iload_n 1, 1) := by decide +kernel
theorem d_Md_turnsOrder_23 : decode m_Md_turnsOrder.2.1 23 = .ok (.aload_n 0, 1) := by decide +kernel
theorem d_Md_turnsOrder_24 : decode m_Md_turnsOrder.2.1 24 = .ok (.getfield 60, 3) := by decide +kernel
theorem d_Md_turnsOrder_27 : decode m_Md_turnsOrder.2.1 27 = .ok (.iload_n 2, 1) := by decide +kernel
theorem d_Md_turnsOrder_28 : decode m_Md_turnsOrder.2.1 28 = .ok (.iaload, 1) := by decide +kernel
theorem d_Md_turnsOrder_29 : decode m_Md_turnsOrder.2.1 29 = .ok (.iastore, 1) := by decide +kernel
theorem d_Md_turnsOrder_30 : decode m_Md_turnsOrder.2.1 30 = .ok (.aload_n 0, 1) := by decide +kernel
theorem d_Md_turnsOrder_31 : decode m_Md_turnsOrder.2.1 31 = .ok (.getfield 60, 3) := by decide +kernel
theorem d_Md_turnsOrder_34 : decode m_Md_turnsOrder.2.1 34 = .ok (.iload_n 2, 1) := by decide +kernel
theorem d_Md_turnsOrder_35 : decode m_Md_turnsOrder.2.1 35 = .ok (.iload_n 3, 1) := by decide +kernel
theorem d_Md_turnsOrder_36 : decode m_Md_turnsOrder.2.1 36 = .ok (.iastore, 1) := by decide +kernel
theorem d_Md_turnsOrder_37 : decode m_Md_turnsOrder.2.1 37 = .ok (.return_, 1) := by decide +kernel
theorem d_Md_orderNumber_0 : decode m_Md_orderNumber.2.1 0 = .ok (.aload_n 0, 1) := by decide +kernel
theorem d_Md_orderNumber_1 : decode m_Md_orderNumber.2.1 1 = .ok (.getfield 7, 3) := by decide +kernel
theorem d_Md_orderNumber_4 : decode m_Md_orderNumber.2.1 4 = .ok (.iconst 0, 1) := by decide +kernel
theorem d_Md_orderNumber_5 : decode m_Md_orderNumber.2.1 5 = .ok (.iaload, 1) := by decide +kernel
theorem d_Md_orderNumber_6 : decode m_Md_orderNumber.2.1 6 = .ok (.istore_n 1, 1) := by decide +kernel
theorem d_Md_orderNumber_7 : decode m_Md_orderNumber.2.1 7 = .ok (.iconst 0, 1) := by decide +kernel
theorem d_Md_orderNumber_8 : decode m_Md_orderNumber.2.1 8 = .ok (.istore_n 2, 1) := by decide +kernel
theorem d_Md_orderNumber_9 : decode m_Md_orderNumber.2.1 9 = .ok (.iconst 0, 1) := by decide +kernel
theorem d_Md_orderNumber_10 : decode m_Md_orderNumber.2.1 10 = .ok (.istore_n 3, 1) := by decide +kernel
theorem d_Md_orderNumber_11 : decode m_Md_orderNumber.2.1 11 = .ok (.iload_n 3, 1) := by decide +kernel
theorem d_Md_orderNumber_12 : decode m_Md_orderNumber.2.1 12 = .ok (.iload_n 1, 1) := by decide +kernel
theorem d_Md_orderNumber_13 : decode m_Md_orderNumber.2.1 13 = .ok (.if_icmp .ge 64, 3) := by decide +kernel
theorem d_Md_orderNumber_77 : decode m_Md_orderNumber.2.1 77 = .ok (.iload_n 2, 1) := by decide +kernel
theorem d_Md_orderNumber_78 : decode m_Md_orderNumber.2.1 78 = .ok (.ireturn, 1) := by decide +kernel
theorem d_Md_orderNumber_16 : decode m_Md_orderNumber.2.1 16 = .ok (.iconst 0, 1) := by decide +kernel
theorem d_Md_orderNumber_17 : decode m_Md_orderNumber.2.1 17 = .ok (.istore 4, 2) := by decide +kernel
theorem d_Md_orderNumber_19 : decode m_Md_orderNumber.2.1 19 = .ok (.iload_n 3, 1) := by decide +kernel
theorem d_Md_orderNumber_20 : decode m_Md_orderNumber.2.1 20 = .ok (.iconst 1, 1) := by decide +kernel
theorem d_Md_orderNumber_21 : decode m_Md_orderNumber.2.1 21 = .ok (.iadd, 1) := by decide +kernel
theorem d_Md_orderNumber_22 : decode m_Md_orderNumber.2.1 22 = .ok (.istore 5, 2) := by decide +kernel
theorem d_Md_orderNumber_24 : decode m_Md_orderNumber.2.1 24 = .ok (.iload 5, 2) := by decide +kernel
theorem d_Md_orderNumber_26 : decode m_Md_orderNumber.2.1 26 = .ok (.iload_n 1, 1) := by decide +kernel
theorem d_Md_orderNumber_27 : decode m_Md_orderNumber.2.1 27 = .ok (.if_icmp .ge 35, 3) := by decide +kernel
theorem d_Md_orderNumber_62 : decode m_Md_orderNumber.2.1 62 = .ok (.iload_n 2, 1) := by decide +kernel
theorem d_Md_orderNumber_63 : decode m_Md_orderNumber.2.1 63 = .ok (.iload_n 1, 1) := by decide +kernel
theorem d_Md_orderNumber_64 : decode m_Md_orderNumber.2.1 64 = .ok (.iload_n 3, 1) := by decide +kernel
theorem d_Md_orderNumber_65 : decode m_Md_orderNumber.2.1 65 = .ok (.isub, 1) := by decide +kernel
theorem d_Md_orderNumber_66 : decode m_Md_orderNumber.2.1 66 = .ok (.imul, 1) := by decide +kernel
theorem d_Md_orderNumber_67 : decode m_Md_orderNumber.2.1 67 = .ok (.iload 4, 2) := by decide +kernel
theorem d_Md_orderNumber_69 : decode m_Md_orderNumber.2.1 69 = .ok (.iadd, 1) := by decide +kernel
theorem d_Md_orderNumber_70 : decode m_Md_orderNumber.2.1 70 = .ok (.istore_n 2, 1) := by decide +kernel
theorem d_Md_orderNumber_71 : decode m_Md_orderNumber.2.1 71 = .ok (.iinc 3 1, 3) := by decide +kernel
theorem d_Md_orderNumber_74 : decode m_Md_orderNumber.2.1 74 = .ok (.goto (-63), 3) := by decide +kernel
theorem d_Md_orderNumber_30 : decode m_Md_orderNumber.2.1 30 = .ok (.iload 4, 2) := by decide +kernel
theorem d_Md_orderNumber_32 : decode m_Md_orderNumber.2.1 32 = .ok (.aload_n 0, 1) := by decide +kernel
theorem d_Md_orderNumber_33 : decode m_Md_orderNumber.2.1 33 = .ok (.getfield 60, 3) := by decide +kernel
theorem d_Md_orderNumber_36 : decode m_Md_orderNumber.2.1 36 = .ok (.iload 5, 2) := by decide +kernel
theorem d_Md_orderNumber_38 : decode m_Md_orderNumber.2.1 38 = .ok (.iaload, 1) := by decide +kernel
theorem d_Md_orderNumber_39 : decode m_Md_orderNumber.2.1 39 = .ok (.aload_n 0, 1) := by decide +kernel
theorem d_Md_orderNumber_40 : decode m_Md_orderNumber.2.1 40 = .ok (.getfield 60, 3) := by decide +kernel
theorem d_Md_orderNumber_43 : decode m_Md_orderNumber.2.1 43 = .ok (.iload_n 3, 1) := by decide +kernel
theorem d_Md_orderNumber_44 : decode m_Md_orderNumber.2.1 44 = .ok (.iaload, 1) := by decide +kernel
theorem d_Md_orderNumber_45 : decode m_Md_orderNumber.2.1 45 = .ok (.if_icmp .ge 7, 3) := by decide +kernel
theorem d_Md_orderNumber_52 : decode m_Md_orderNumber.2.1 52 = .ok (.iconst 0, 1) := by decide +kernel
theorem d_Md_orderNumber_53 : decode m_Md_orderNumber.2.1 53 = .ok (.iadd, 1) := by decide +kernel
theorem d_Md_orderNumber_54 : decode m_Md_orderNumber.2.1 54 = .ok (.istore 4, 2) := by decide +kernel
theorem d_Md_orderNumber_56 : decode m_Md_orderNumber.2.1 56 = .ok (.iinc 5 1, 3) := by decide +kernel
theorem d_Md_orderNumber_59 : decode m_Md_orderNumber.2.1 59 = .ok (.goto (-35), 3) := by decide +kernel
theorem d_Md_orderNumber_48 : decode m_Md_orderNumber.2.1 48 = .ok (.iconst 1, 1) := by decide +kernel
theorem d_Md_orderNumber_49 : decode m_Md_orderNumber.2.1 49 = .ok (.goto 4, 3) := by decide +kernel
theorem d_Md_orderNow_0 : decode m_Md_orderNow.2.1 0 = .ok (.iconst 0, 1) := by decide +kernel
theorem d_Md_orderNow_1 : decode m_Md_orderNow.2.1 1 = .ok (.istore_n 1, 1) := by decide +kernel
theorem d_Md_orderNow_2 : decode m_Md_orderNow.2.1 2 = .ok (.iload_n 1, 1) := by decide +kernel
theorem d_Md_orderNow_3 : decode m_Md_orderNow.2.1 3 = .ok (.aload_n 0, 1) := by decide +kernel
theorem d_Md_orderNow_4 : decode m_Md_orderNow.2.1 4 = .ok (.getfield 7, 3) := by decide +kernel
theorem d_Md_orderNow_7 : decode m_Md_orderNow.2.1 7 = .ok (.iconst 0, 1) := by decide +kernel
theorem d_Md_orderNow_8 : decode m_Md_orderNow.2.1 8 = .ok (.iaload, 1) := by decide +kernel
theorem d_Md_orderNow_9 : decode m_Md_orderNow.2.1 9 = .ok (.if_icmp .ge 24, 3) := by decide +kernel
theorem d_Md_orderNow_33 : decode m_Md_orderNow.2.1 33 = .ok (.aload_n 0, 1) := by decide +kernel
theorem d_Md_orderNow_34 : decode m_Md_orderNow.2.1 34 = .ok (.invokevirtual 396, 3) := by decide +kernel
theorem d_Md_orderNow_37 : decode m_Md_orderNow.2.1 37 = .ok (.ireturn, 1) := by decide +kernel
theorem d_Md_orderNow_12 : decode m_Md_orderNow.2.1 12 = .ok (.aload_n 0, 1) := by decide +kernel
theorem d_Md_orderNow_13 : decode m_Md_orderNow.2.1 13 = .ok (.getfield 60, 3) := by decide +kernel
theorem d_Md_orderNow_16 : decode m_Md_orderNow.2.1 16 = .ok (.iload_n 1, 1) := by decide +kernel
theorem d_Md_orderNow_17 : decode m_Md_orderNow.2.1 17 = .ok (.aload_n 0, 1) := by decide +kernel
theorem d_Md_orderNow_18 : decode m_Md_orderNow.2.1 18 = .ok (.getfield 7, 3) := by decide +kernel
theorem d_Md_orderNow_21 : decode m_Md_orderNow.2.1 21 = .ok (.bipush 17, 2) := by decide +kernel
theorem d_Md_orderNow_23 : decode m_Md_orderNow.2.1 23 = .ok (.iload_n 1, 1) := by decide +kernel
theorem d_Md_orderNow_24 : decode m_Md_orderNow.2.1 24 = .ok (.iadd, 1) := by decide +kernel
theorem d_Md_orderNow_25 : decode m_Md_orderNow.2.1 25 = .ok (.iaload, 1) := by decide +kernel
theorem d_Md_orderNow_26 : decode m_Md_orderNow.2.1 26 = .ok (.iastore, 1) := by decide +kernel
theorem d_Md_orderNow_27 : decode m_Md_orderNow.2.1 27 = .ok (.iinc 1 1, 3) := by decide +kernel
theorem d_Md_orderNow_30 : decode m_Md_orderNow.2.1 30 = .ok (.goto (-28), 3) := by decide +kernel
abbrev m_Md_homewardAt : aw_MI := (⟨"MaypoleGreenModel", "homewardAt", "(I)I"⟩, prog_14_method_99_code, 6, some .int)
theorem k_Md_homewardAt : aw_K m_Md_homewardAt 1 := ⟨aw_in 1795 (by decide +kernel) rfl, aw_in 16 (by decide +kernel) rfl, ⟨by decide, by decide, by decide +kernel⟩, by decide, by decide +kernel⟩
theorem d_Md_homewardAt_0 : decode m_Md_homewardAt.2.1 0 = .ok (.iload_n 1, 1) := by decide +kernel
theorem d_Md_homewardAt_1 : decode m_Md_homewardAt.2.1 1 = .ok (.ifCond .ge 9, 3) := by decide +kernel
theorem d_Md_homewardAt_10 : decode m_Md_homewardAt.2.1 10 = .ok (.aload_n 0, 1) := by decide +kernel
theorem d_Md_homewardAt_11 : decode m_Md_homewardAt.2.1 11 = .ok (.invokevirtual 399, 3) := by decide +kernel
theorem d_Md_homewardAt_14 : decode m_Md_homewardAt.2.1 14 = .ok (.aload_n 0, 1) := by decide +kernel
theorem d_Md_homewardAt_15 : decode m_Md_homewardAt.2.1 15 = .ok (.invokevirtual 402, 3) := by decide +kernel
theorem d_Md_homewardAt_18 : decode m_Md_homewardAt.2.1 18 = .ok (.istore_n 2, 1) := by decide +kernel
theorem d_Md_homewardAt_19 : decode m_Md_homewardAt.2.1 19 = .ok (.iload_n 1, 1) := by decide +kernel
theorem d_Md_homewardAt_20 : decode m_Md_homewardAt.2.1 20 = .ok (.aload_n 0, 1) := by decide +kernel
theorem d_Md_homewardAt_21 : decode m_Md_homewardAt.2.1 21 = .ok (.getfield 54, 3) := by decide +kernel
theorem d_Md_homewardAt_24 : decode m_Md_homewardAt.2.1 24 = .ok (.iload_n 2, 1) := by decide +kernel
theorem d_Md_homewardAt_25 : decode m_Md_homewardAt.2.1 25 = .ok (.iaload, 1) := by decide +kernel
theorem d_Md_homewardAt_26 : decode m_Md_homewardAt.2.1 26 = .ok (.if_icmp .lt 10, 3) := by decide +kernel
theorem d_Md_homewardAt_36 : decode m_Md_homewardAt.2.1 36 = .ok (.iconst 0, 1) := by decide +kernel
theorem d_Md_homewardAt_37 : decode m_Md_homewardAt.2.1 37 = .ok (.istore_n 3, 1) := by decide +kernel
theorem d_Md_homewardAt_38 : decode m_Md_homewardAt.2.1 38 = .ok (.iconst 0, 1) := by decide +kernel
theorem d_Md_homewardAt_39 : decode m_Md_homewardAt.2.1 39 = .ok (.istore 4, 2) := by decide +kernel
theorem d_Md_homewardAt_29 : decode m_Md_homewardAt.2.1 29 = .ok (.aload_n 0, 1) := by decide +kernel
theorem d_Md_homewardAt_30 : decode m_Md_homewardAt.2.1 30 = .ok (.bipush 6, 2) := by decide +kernel
theorem d_Md_homewardAt_32 : decode m_Md_homewardAt.2.1 32 = .ok (.invokevirtual 118, 3) := by decide +kernel
theorem d_Md_homewardAt_35 : decode m_Md_homewardAt.2.1 35 = .ok (.ireturn, 1) := by decide +kernel
theorem d_Md_homewardAt_4 : decode m_Md_homewardAt.2.1 4 = .ok (.aload_n 0, 1) := by decide +kernel
theorem d_Md_homewardAt_5 : decode m_Md_homewardAt.2.1 5 = .ok (.iconst 1, 1) := by decide +kernel
theorem d_Md_homewardAt_6 : decode m_Md_homewardAt.2.1 6 = .ok (.invokevirtual 118, 3) := by decide +kernel
theorem d_Md_homewardAt_9 : decode m_Md_homewardAt.2.1 9 = .ok (.ireturn, 1) := by decide +kernel
theorem d_Md_homewardAt_41 : decode m_Md_homewardAt.2.1 41 = .ok (.iload 4, 2) := by decide +kernel
theorem d_Md_homewardAt_43 : decode m_Md_homewardAt.2.1 43 = .ok (.iload_n 1, 1) := by decide +kernel
theorem d_Md_homewardAt_44 : decode m_Md_homewardAt.2.1 44 = .ok (.if_icmp .gt 82, 3) := by decide +kernel
theorem d_Md_homewardAt_126 : decode m_Md_homewardAt.2.1 126 = .ok (.aload_n 0, 1) := by decide +kernel
theorem d_Md_homewardAt_127 : decode m_Md_homewardAt.2.1 127 = .ok (.iload_n 3, 1) := by decide +kernel
theorem d_Md_homewardAt_128 : decode m_Md_homewardAt.2.1 128 = .ok (.invokevirtual 122, 3) := by decide +kernel
theorem d_Md_homewardAt_131 : decode m_Md_homewardAt.2.1 131 = .ok (.ireturn, 1) := by decide +kernel
theorem d_Md_homewardAt_47 : decode m_Md_homewardAt.2.1 47 = .ok (.iconst 0, 1) := by decide +kernel
theorem d_Md_homewardAt_48 : decode m_Md_homewardAt.2.1 48 = .ok (.istore 5, 2) := by decide +kernel
theorem d_Md_homewardAt_50 : decode m_Md_homewardAt.2.1 50 = .ok (.iconst 0, 1) := by decide +kernel
theorem d_Md_homewardAt_51 : decode m_Md_homewardAt.2.1 51 = .ok (.istore_n 3, 1) := by decide +kernel
theorem d_Md_homewardAt_52 : decode m_Md_homewardAt.2.1 52 = .ok (.iload 5, 2) := by decide +kernel
theorem d_Md_homewardAt_54 : decode m_Md_homewardAt.2.1 54 = .ok (.ifCond .ne 61, 3) := by decide +kernel
theorem d_Md_homewardAt_115 : decode m_Md_homewardAt.2.1 115 = .ok (.aload_n 0, 1) := by decide +kernel
theorem d_Md_homewardAt_116 : decode m_Md_homewardAt.2.1 116 = .ok (.invokevirtual 396, 3) := by decide +kernel
theorem d_Md_homewardAt_119 : decode m_Md_homewardAt.2.1 119 = .ok (.istore_n 2, 1) := by decide +kernel
theorem d_Md_homewardAt_120 : decode m_Md_homewardAt.2.1 120 = .ok (.iinc 4 1, 3) := by decide +kernel
theorem d_Md_homewardAt_123 : decode m_Md_homewardAt.2.1 123 = .ok (.goto (-82), 3) := by decide +kernel
theorem d_Md_homewardAt_57 : decode m_Md_homewardAt.2.1 57 = .ok (.aload_n 0, 1) := by decide +kernel
theorem d_Md_homewardAt_58 : decode m_Md_homewardAt.2.1 58 = .ok (.iload_n 3, 1) := by decide +kernel
theorem d_Md_homewardAt_59 : decode m_Md_homewardAt.2.1 59 = .ok (.invokevirtual 393, 3) := by decide +kernel
theorem d_Md_homewardAt_62 : decode m_Md_homewardAt.2.1 62 = .ok (.aload_n 0, 1) := by decide +kernel
theorem d_Md_homewardAt_63 : decode m_Md_homewardAt.2.1 63 = .ok (.getfield 54, 3) := by decide +kernel
theorem d_Md_homewardAt_66 : decode m_Md_homewardAt.2.1 66 = .ok (.aload_n 0, 1) := by decide +kernel
theorem d_Md_homewardAt_67 : decode m_Md_homewardAt.2.1 67 = .ok (.invokevirtual 396, 3) := by decide +kernel
theorem d_Md_homewardAt_70 : decode m_Md_homewardAt.2.1 70 = .ok (.iaload, 1) := by decide +kernel
theorem d_Md_homewardAt_71 : decode m_Md_homewardAt.2.1 71 = .ok (.aload_n 0, 1) := by decide +kernel
theorem d_Md_homewardAt_72 : decode m_Md_homewardAt.2.1 72 = .ok (.getfield 54, 3) := by decide +kernel
theorem d_Md_homewardAt_75 : decode m_Md_homewardAt.2.1 75 = .ok (.iload_n 2, 1) := by decide +kernel
theorem d_Md_homewardAt_76 : decode m_Md_homewardAt.2.1 76 = .ok (.iaload, 1) := by decide +kernel
theorem d_Md_homewardAt_77 : decode m_Md_homewardAt.2.1 77 = .ok (.iconst 1, 1) := by decide +kernel
theorem d_Md_homewardAt_78 : decode m_Md_homewardAt.2.1 78 = .ok (.isub, 1) := by decide +kernel
theorem d_Md_homewardAt_79 : decode m_Md_homewardAt.2.1 79 = .ok (.if_icmp .ne 7, 3) := by decide +kernel
theorem d_Md_homewardAt_86 : decode m_Md_homewardAt.2.1 86 = .ok (.iconst 0, 1) := by decide +kernel
theorem d_Md_homewardAt_87 : decode m_Md_homewardAt.2.1 87 = .ok (.istore 5, 2) := by decide +kernel
theorem d_Md_homewardAt_89 : decode m_Md_homewardAt.2.1 89 = .ok (.iload 5, 2) := by decide +kernel
theorem d_Md_homewardAt_91 : decode m_Md_homewardAt.2.1 91 = .ok (.ifCond .ne 8, 3) := by decide +kernel
theorem d_Md_homewardAt_94 : decode m_Md_homewardAt.2.1 94 = .ok (.aload_n 0, 1) := by decide +kernel
theorem d_Md_homewardAt_95 : decode m_Md_homewardAt.2.1 95 = .ok (.iload_n 3, 1) := by decide +kernel
theorem d_Md_homewardAt_96 : decode m_Md_homewardAt.2.1 96 = .ok (.invokevirtual 393, 3) := by decide +kernel
theorem d_Md_homewardAt_99 : decode m_Md_homewardAt.2.1 99 = .ok (.iload_n 3, 1) := by decide +kernel
theorem d_Md_homewardAt_100 : decode m_Md_homewardAt.2.1 100 = .ok (.iload 5, 2) := by decide +kernel
theorem d_Md_homewardAt_102 : decode m_Md_homewardAt.2.1 102 = .ok (.ifCond .eq 7, 3) := by decide +kernel
theorem d_Md_homewardAt_109 : decode m_Md_homewardAt.2.1 109 = .ok (.iconst 1, 1) := by decide +kernel
theorem d_Md_homewardAt_110 : decode m_Md_homewardAt.2.1 110 = .ok (.iadd, 1) := by decide +kernel
theorem d_Md_homewardAt_111 : decode m_Md_homewardAt.2.1 111 = .ok (.istore_n 3, 1) := by decide +kernel
theorem d_Md_homewardAt_112 : decode m_Md_homewardAt.2.1 112 = .ok (.goto (-60), 3) := by decide +kernel
theorem d_Md_homewardAt_82 : decode m_Md_homewardAt.2.1 82 = .ok (.iconst 1, 1) := by decide +kernel
theorem d_Md_homewardAt_83 : decode m_Md_homewardAt.2.1 83 = .ok (.goto 4, 3) := by decide +kernel
theorem d_Md_homewardAt_105 : decode m_Md_homewardAt.2.1 105 = .ok (.iconst 0, 1) := by decide +kernel
theorem d_Md_homewardAt_106 : decode m_Md_homewardAt.2.1 106 = .ok (.goto 4, 3) := by decide +kernel
abbrev m_Md_meet : aw_MI := (⟨"MaypoleGreenModel", "meet", "(II)I"⟩, prog_14_method_100_code, 5, some .int)
theorem k_Md_meet : aw_K m_Md_meet 2 := ⟨aw_in 1799 (by decide +kernel) rfl, aw_in 16 (by decide +kernel) rfl, ⟨by decide, by decide, by decide +kernel⟩, by decide, by decide +kernel⟩
theorem d_Md_meet_0 : decode m_Md_meet.2.1 0 = .ok (.aload_n 0, 1) := by decide +kernel
theorem d_Md_meet_1 : decode m_Md_meet.2.1 1 = .ok (.iload_n 1, 1) := by decide +kernel
theorem d_Md_meet_2 : decode m_Md_meet.2.1 2 = .ok (.iload_n 2, 1) := by decide +kernel
theorem d_Md_meet_3 : decode m_Md_meet.2.1 3 = .ok (.invokevirtual 379, 3) := by decide +kernel
theorem d_Md_meet_6 : decode m_Md_meet.2.1 6 = .ok (.ifCond .ne 9, 3) := by decide +kernel
theorem d_Md_meet_15 : decode m_Md_meet.2.1 15 = .ok (.aload_n 0, 1) := by decide +kernel
theorem d_Md_meet_16 : decode m_Md_meet.2.1 16 = .ok (.getfield 7, 3) := by decide +kernel
theorem d_Md_meet_19 : decode m_Md_meet.2.1 19 = .ok (.iconst 0, 1) := by decide +kernel
theorem d_Md_meet_20 : decode m_Md_meet.2.1 20 = .ok (.iaload, 1) := by decide +kernel
theorem d_Md_meet_21 : decode m_Md_meet.2.1 21 = .ok (.istore_n 3, 1) := by decide +kernel
theorem d_Md_meet_22 : decode m_Md_meet.2.1 22 = .ok (.aload_n 0, 1) := by decide +kernel
theorem d_Md_meet_23 : decode m_Md_meet.2.1 23 = .ok (.iload_n 1, 1) := by decide +kernel
theorem d_Md_meet_24 : decode m_Md_meet.2.1 24 = .ok (.invokevirtual 337, 3) := by decide +kernel
theorem d_Md_meet_27 : decode m_Md_meet.2.1 27 = .ok (.aload_n 0, 1) := by decide +kernel
theorem d_Md_meet_28 : decode m_Md_meet.2.1 28 = .ok (.iload_n 2, 1) := by decide +kernel
theorem d_Md_meet_29 : decode m_Md_meet.2.1 29 = .ok (.invokevirtual 337, 3) := by decide +kernel
theorem d_Md_meet_32 : decode m_Md_meet.2.1 32 = .ok (.isub, 1) := by decide +kernel
theorem d_Md_meet_33 : decode m_Md_meet.2.1 33 = .ok (.iload_n 3, 1) := by decide +kernel
theorem d_Md_meet_34 : decode m_Md_meet.2.1 34 = .ok (.iadd, 1) := by decide +kernel
theorem d_Md_meet_35 : decode m_Md_meet.2.1 35 = .ok (.iload_n 3, 1) := by decide +kernel
theorem d_Md_meet_36 : decode m_Md_meet.2.1 36 = .ok (.irem, 1) := by decide +kernel
theorem d_Md_meet_37 : decode m_Md_meet.2.1 37 = .ok (.istore 4, 2) := by decide +kernel
theorem d_Md_meet_39 : decode m_Md_meet.2.1 39 = .ok (.aload_n 0, 1) := by decide +kernel
theorem d_Md_meet_40 : decode m_Md_meet.2.1 40 = .ok (.iload 4, 2) := by decide +kernel
theorem d_Md_meet_42 : decode m_Md_meet.2.1 42 = .ok (.iload_n 3, 1) := by decide +kernel
theorem d_Md_meet_43 : decode m_Md_meet.2.1 43 = .ok (.iload 4, 2) := by decide +kernel
theorem d_Md_meet_45 : decode m_Md_meet.2.1 45 = .ok (.isub, 1) := by decide +kernel
theorem d_Md_meet_46 : decode m_Md_meet.2.1 46 = .ok (.invokestatic 173, 3) := by decide +kernel
theorem d_Md_meet_49 : decode m_Md_meet.2.1 49 = .ok (.iconst 1, 1) := by decide +kernel
theorem d_Md_meet_50 : decode m_Md_meet.2.1 50 = .ok (.isub, 1) := by decide +kernel
theorem d_Md_meet_51 : decode m_Md_meet.2.1 51 = .ok (.invokevirtual 122, 3) := by decide +kernel
theorem d_Md_meet_54 : decode m_Md_meet.2.1 54 = .ok (.ireturn, 1) := by decide +kernel
theorem d_Md_meet_9 : decode m_Md_meet.2.1 9 = .ok (.aload_n 0, 1) := by decide +kernel
theorem d_Md_meet_10 : decode m_Md_meet.2.1 10 = .ok (.iconst 1, 1) := by decide +kernel
theorem d_Md_meet_11 : decode m_Md_meet.2.1 11 = .ok (.invokevirtual 118, 3) := by decide +kernel
theorem d_Md_meet_14 : decode m_Md_meet.2.1 14 = .ok (.ireturn, 1) := by decide +kernel
abbrev m_Md_same : aw_MI := (⟨"MaypoleGreenModel", "same", "(II)I"⟩, prog_14_method_107_code, 4, some .int)
theorem k_Md_same : aw_K m_Md_same 2 := ⟨aw_in 1803 (by decide +kernel) rfl, aw_in 16 (by decide +kernel) rfl, ⟨by decide, by decide, by decide +kernel⟩, by decide, by decide +kernel⟩
theorem d_Md_same_0 : decode m_Md_same.2.1 0 = .ok (.aload_n 0, 1) := by decide +kernel
theorem d_Md_same_1 : decode m_Md_same.2.1 1 = .ok (.iload_n 1, 1) := by decide +kernel
theorem d_Md_same_2 : decode m_Md_same.2.1 2 = .ok (.iload_n 2, 1) := by decide +kernel
theorem d_Md_same_3 : decode m_Md_same.2.1 3 = .ok (.invokevirtual 420, 3) := by decide +kernel
abbrev m_Md_wrongDance : aw_MI := (⟨"MaypoleGreenModel", "wrongDance", "(II)I"⟩, prog_14_method_101_code, 4, some .int)
theorem lk_Md_420 : Cond.methodLink "MaypoleGreenModel" 420 m_Md_wrongDance.1 ∈ aw_T := aw_in 1804 (by decide +kernel) rfl
theorem k_Md_wrongDance : aw_K m_Md_wrongDance 2 := ⟨aw_in 1807 (by decide +kernel) rfl, aw_in 16 (by decide +kernel) rfl, ⟨by decide, by decide, by decide +kernel⟩, by decide, by decide +kernel⟩
theorem in_Md_wrongDance : Cond.instanceMethod m_Md_wrongDance.1 ∈ aw_T := aw_in 1806 (by decide +kernel) rfl
theorem se_Md_wrongDance : Cond.selects m_Md_wrongDance.1.cls m_Md_wrongDance.1 m_Md_wrongDance.1 ∈ aw_T := aw_inP 116 (by decide +kernel) rfl
theorem d_Md_same_6 : decode m_Md_same.2.1 6 = .ok (.istore_n 3, 1) := by decide +kernel
theorem d_Md_same_7 : decode m_Md_same.2.1 7 = .ok (.iload_n 3, 1) := by decide +kernel
theorem d_Md_same_8 : decode m_Md_same.2.1 8 = .ok (.ifCond .le 9, 3) := by decide +kernel
theorem d_Md_same_17 : decode m_Md_same.2.1 17 = .ok (.aload_n 0, 1) := by decide +kernel
theorem d_Md_same_18 : decode m_Md_same.2.1 18 = .ok (.iload_n 1, 1) := by decide +kernel
theorem d_Md_same_19 : decode m_Md_same.2.1 19 = .ok (.iload_n 2, 1) := by decide +kernel
theorem d_Md_same_20 : decode m_Md_same.2.1 20 = .ok (.iconst (-1), 1) := by decide +kernel
theorem d_Md_same_21 : decode m_Md_same.2.1 21 = .ok (.invokevirtual 423, 3) := by decide +kernel
abbrev m_Md_laysDance : aw_MI := (⟨"MaypoleGreenModel", "laysDance", "(III)V"⟩, prog_14_method_103_code, 6, none)
theorem lk_Md_423 : Cond.methodLink "MaypoleGreenModel" 423 m_Md_laysDance.1 ∈ aw_T := aw_in 1809 (by decide +kernel) rfl
theorem k_Md_laysDance : aw_K m_Md_laysDance 3 := ⟨aw_in 1812 (by decide +kernel) rfl, aw_in 16 (by decide +kernel) rfl, ⟨by decide, by decide, by decide +kernel⟩, by decide, by decide +kernel⟩
theorem in_Md_laysDance : Cond.instanceMethod m_Md_laysDance.1 ∈ aw_T := aw_in 1811 (by decide +kernel) rfl
theorem se_Md_laysDance : Cond.selects m_Md_laysDance.1.cls m_Md_laysDance.1 m_Md_laysDance.1 ∈ aw_T := aw_inP 117 (by decide +kernel) rfl
theorem d_Md_same_24 : decode m_Md_same.2.1 24 = .ok (.aload_n 0, 1) := by decide +kernel
theorem d_Md_same_25 : decode m_Md_same.2.1 25 = .ok (.aload_n 0, 1) := by decide +kernel
theorem d_Md_same_26 : decode m_Md_same.2.1 26 = .ok (.invokevirtual 427, 3) := by decide +kernel
abbrev m_Md_apartNow : aw_MI := (⟨"MaypoleGreenModel", "apartNow", "()I"⟩, prog_14_method_106_code, 1, some .int)
theorem lk_Md_427 : Cond.methodLink "MaypoleGreenModel" 427 m_Md_apartNow.1 ∈ aw_T := aw_in 1817 (by decide +kernel) rfl
theorem k_Md_apartNow : aw_K m_Md_apartNow 0 := ⟨aw_in 1820 (by decide +kernel) rfl, aw_in 16 (by decide +kernel) rfl, ⟨by decide, by decide, by decide +kernel⟩, by decide, by decide +kernel⟩
theorem in_Md_apartNow : Cond.instanceMethod m_Md_apartNow.1 ∈ aw_T := aw_in 1819 (by decide +kernel) rfl
theorem se_Md_apartNow : Cond.selects m_Md_apartNow.1.cls m_Md_apartNow.1 m_Md_apartNow.1 ∈ aw_T := aw_inP 119 (by decide +kernel) rfl
theorem d_Md_same_29 : decode m_Md_same.2.1 29 = .ok (.ifCond .ne 7, 3) := by decide +kernel
theorem d_Md_same_36 : decode m_Md_same.2.1 36 = .ok (.iconst 0, 1) := by decide +kernel
theorem d_Md_same_37 : decode m_Md_same.2.1 37 = .ok (.invokevirtual 122, 3) := by decide +kernel
theorem d_Md_same_40 : decode m_Md_same.2.1 40 = .ok (.ireturn, 1) := by decide +kernel
theorem d_Md_same_32 : decode m_Md_same.2.1 32 = .ok (.iconst 1, 1) := by decide +kernel
theorem d_Md_same_33 : decode m_Md_same.2.1 33 = .ok (.goto 4, 3) := by decide +kernel
theorem d_Md_same_11 : decode m_Md_same.2.1 11 = .ok (.aload_n 0, 1) := by decide +kernel
theorem d_Md_same_12 : decode m_Md_same.2.1 12 = .ok (.iload_n 3, 1) := by decide +kernel
theorem d_Md_same_13 : decode m_Md_same.2.1 13 = .ok (.invokevirtual 118, 3) := by decide +kernel
theorem d_Md_same_16 : decode m_Md_same.2.1 16 = .ok (.ireturn, 1) := by decide +kernel
theorem d_Md_wrongDance_0 : decode m_Md_wrongDance.2.1 0 = .ok (.iload_n 1, 1) := by decide +kernel
theorem d_Md_wrongDance_1 : decode m_Md_wrongDance.2.1 1 = .ok (.invokestatic 129, 3) := by decide +kernel
theorem d_Md_wrongDance_4 : decode m_Md_wrongDance.2.1 4 = .ok (.ifCond .eq 15, 3) := by decide +kernel
theorem d_Md_wrongDance_19 : decode m_Md_wrongDance.2.1 19 = .ok (.iconst 1, 1) := by decide +kernel
theorem d_Md_wrongDance_20 : decode m_Md_wrongDance.2.1 20 = .ok (.ireturn, 1) := by decide +kernel
theorem d_Md_wrongDance_7 : decode m_Md_wrongDance.2.1 7 = .ok (.iload_n 2, 1) := by decide +kernel
theorem d_Md_wrongDance_8 : decode m_Md_wrongDance.2.1 8 = .ok (.i2l, 1) := by decide +kernel
theorem d_Md_wrongDance_9 : decode m_Md_wrongDance.2.1 9 = .ok (.lconst 0, 1) := by decide +kernel
theorem d_Md_wrongDance_10 : decode m_Md_wrongDance.2.1 10 = .ok (.ldc2_w 384, 3) := by decide +kernel
theorem d_Md_wrongDance_13 : decode m_Md_wrongDance.2.1 13 = .ok (.invokestatic 372, 3) := by decide +kernel
theorem d_Md_wrongDance_16 : decode m_Md_wrongDance.2.1 16 = .ok (.ifCond .ne 5, 3) := by decide +kernel
theorem d_Md_wrongDance_21 : decode m_Md_wrongDance.2.1 21 = .ok (.aload_n 0, 1) := by decide +kernel
theorem d_Md_wrongDance_22 : decode m_Md_wrongDance.2.1 22 = .ok (.getfield 24, 3) := by decide +kernel
theorem d_Md_wrongDance_25 : decode m_Md_wrongDance.2.1 25 = .ok (.iload_n 1, 1) := by decide +kernel
theorem d_Md_wrongDance_26 : decode m_Md_wrongDance.2.1 26 = .ok (.iaload, 1) := by decide +kernel
theorem d_Md_wrongDance_27 : decode m_Md_wrongDance.2.1 27 = .ok (.iconst (-1), 1) := by decide +kernel
theorem d_Md_wrongDance_28 : decode m_Md_wrongDance.2.1 28 = .ok (.if_icmp .ne 5, 3) := by decide +kernel
theorem d_Md_wrongDance_33 : decode m_Md_wrongDance.2.1 33 = .ok (.aload_n 0, 1) := by decide +kernel
theorem d_Md_wrongDance_34 : decode m_Md_wrongDance.2.1 34 = .ok (.getfield 24, 3) := by decide +kernel
theorem d_Md_wrongDance_37 : decode m_Md_wrongDance.2.1 37 = .ok (.iload_n 1, 1) := by decide +kernel
theorem d_Md_wrongDance_38 : decode m_Md_wrongDance.2.1 38 = .ok (.iaload, 1) := by decide +kernel
theorem d_Md_wrongDance_39 : decode m_Md_wrongDance.2.1 39 = .ok (.iload_n 2, 1) := by decide +kernel
theorem d_Md_wrongDance_40 : decode m_Md_wrongDance.2.1 40 = .ok (.if_icmp .ge 5, 3) := by decide +kernel
theorem d_Md_wrongDance_45 : decode m_Md_wrongDance.2.1 45 = .ok (.iconst 0, 1) := by decide +kernel
theorem d_Md_wrongDance_46 : decode m_Md_wrongDance.2.1 46 = .ok (.istore_n 3, 1) := by decide +kernel
theorem d_Md_wrongDance_43 : decode m_Md_wrongDance.2.1 43 = .ok (.iconst 3, 1) := by decide +kernel
theorem d_Md_wrongDance_44 : decode m_Md_wrongDance.2.1 44 = .ok (.ireturn, 1) := by decide +kernel
theorem d_Md_wrongDance_31 : decode m_Md_wrongDance.2.1 31 = .ok (.iconst 2, 1) := by decide +kernel
theorem d_Md_wrongDance_32 : decode m_Md_wrongDance.2.1 32 = .ok (.ireturn, 1) := by decide +kernel
theorem d_Md_wrongDance_47 : decode m_Md_wrongDance.2.1 47 = .ok (.iload_n 3, 1) := by decide +kernel
theorem d_Md_wrongDance_48 : decode m_Md_wrongDance.2.1 48 = .ok (.iload_n 2, 1) := by decide +kernel
theorem d_Md_wrongDance_49 : decode m_Md_wrongDance.2.1 49 = .ok (.if_icmp .ge 41, 3) := by decide +kernel
theorem d_Md_wrongDance_90 : decode m_Md_wrongDance.2.1 90 = .ok (.iconst 0, 1) := by decide +kernel
theorem d_Md_wrongDance_91 : decode m_Md_wrongDance.2.1 91 = .ok (.ireturn, 1) := by decide +kernel
theorem d_Md_wrongDance_52 : decode m_Md_wrongDance.2.1 52 = .ok (.aload_n 0, 1) := by decide +kernel
theorem d_Md_wrongDance_53 : decode m_Md_wrongDance.2.1 53 = .ok (.getfield 27, 3) := by decide +kernel
theorem d_Md_wrongDance_56 : decode m_Md_wrongDance.2.1 56 = .ok (.bipush 60, 2) := by decide +kernel
theorem d_Md_wrongDance_58 : decode m_Md_wrongDance.2.1 58 = .ok (.iload_n 1, 1) := by decide +kernel
theorem d_Md_wrongDance_59 : decode m_Md_wrongDance.2.1 59 = .ok (.imul, 1) := by decide +kernel
theorem d_Md_wrongDance_60 : decode m_Md_wrongDance.2.1 60 = .ok (.iload_n 3, 1) := by decide +kernel
theorem d_Md_wrongDance_61 : decode m_Md_wrongDance.2.1 61 = .ok (.iadd, 1) := by decide +kernel
theorem d_Md_wrongDance_62 : decode m_Md_wrongDance.2.1 62 = .ok (.laload, 1) := by decide +kernel
theorem d_Md_wrongDance_63 : decode m_Md_wrongDance.2.1 63 = .ok (.lconst 0, 1) := by decide +kernel
theorem d_Md_wrongDance_64 : decode m_Md_wrongDance.2.1 64 = .ok (.ldc2_w 405, 3) := by decide +kernel
theorem cl_Md_405 : Cond.constantLong "MaypoleGreenModel" 405 (2) ∈ aw_T := aw_in 1808 (by decide +kernel) rfl
theorem d_Md_wrongDance_67 : decode m_Md_wrongDance.2.1 67 = .ok (.aload_n 0, 1) := by decide +kernel
theorem d_Md_wrongDance_68 : decode m_Md_wrongDance.2.1 68 = .ok (.iconst 0, 1) := by decide +kernel
theorem d_Md_wrongDance_69 : decode m_Md_wrongDance.2.1 69 = .ok (.invokevirtual 260, 3) := by decide +kernel
theorem d_Md_wrongDance_72 : decode m_Md_wrongDance.2.1 72 = .ok (.i2l, 1) := by decide +kernel
theorem d_Md_wrongDance_73 : decode m_Md_wrongDance.2.1 73 = .ok (.lmul, 1) := by decide +kernel
theorem d_Md_wrongDance_74 : decode m_Md_wrongDance.2.1 74 = .ok (.lconst 1, 1) := by decide +kernel
theorem d_Md_wrongDance_75 : decode m_Md_wrongDance.2.1 75 = .ok (.lsub, 1) := by decide +kernel
theorem d_Md_wrongDance_76 : decode m_Md_wrongDance.2.1 76 = .ok (.invokestatic 372, 3) := by decide +kernel
theorem d_Md_wrongDance_79 : decode m_Md_wrongDance.2.1 79 = .ok (.ifCond .ne 5, 3) := by decide +kernel
theorem d_Md_wrongDance_84 : decode m_Md_wrongDance.2.1 84 = .ok (.iinc 3 1, 3) := by decide +kernel
theorem d_Md_wrongDance_87 : decode m_Md_wrongDance.2.1 87 = .ok (.goto (-40), 3) := by decide +kernel
theorem d_Md_wrongDance_82 : decode m_Md_wrongDance.2.1 82 = .ok (.iconst 5, 1) := by decide +kernel
theorem d_Md_wrongDance_83 : decode m_Md_wrongDance.2.1 83 = .ok (.ireturn, 1) := by decide +kernel
theorem d_Md_laysDance_0 : decode m_Md_laysDance.2.1 0 = .ok (.aload_n 0, 1) := by decide +kernel
theorem d_Md_laysDance_1 : decode m_Md_laysDance.2.1 1 = .ok (.iconst 0, 1) := by decide +kernel
theorem d_Md_laysDance_2 : decode m_Md_laysDance.2.1 2 = .ok (.putfield 407, 3) := by decide +kernel
theorem f_Md_407 : aw_F "MaypoleGreenModel" 407 11 33 false := ⟨cR11, cT11, 52, fun k => cY11.getD k .int, rfl, ci11, cy11, cn11, rfl, by decide, aw_in 1288 (by decide +kernel) rfl, rfl, rfl, rfl⟩
theorem d_Md_laysDance_5 : decode m_Md_laysDance.2.1 5 = .ok (.iconst 0, 1) := by decide +kernel
theorem d_Md_laysDance_6 : decode m_Md_laysDance.2.1 6 = .ok (.istore 4, 2) := by decide +kernel
theorem d_Md_laysDance_8 : decode m_Md_laysDance.2.1 8 = .ok (.iload 4, 2) := by decide +kernel
theorem d_Md_laysDance_10 : decode m_Md_laysDance.2.1 10 = .ok (.iload_n 2, 1) := by decide +kernel
theorem d_Md_laysDance_11 : decode m_Md_laysDance.2.1 11 = .ok (.if_icmp .ge 51, 3) := by decide +kernel
theorem d_Md_laysDance_62 : decode m_Md_laysDance.2.1 62 = .ok (.return_, 1) := by decide +kernel
theorem d_Md_laysDance_14 : decode m_Md_laysDance.2.1 14 = .ok (.aload_n 0, 1) := by decide +kernel
theorem d_Md_laysDance_15 : decode m_Md_laysDance.2.1 15 = .ok (.getfield 27, 3) := by decide +kernel
theorem d_Md_laysDance_18 : decode m_Md_laysDance.2.1 18 = .ok (.bipush 60, 2) := by decide +kernel
theorem d_Md_laysDance_20 : decode m_Md_laysDance.2.1 20 = .ok (.iload_n 1, 1) := by decide +kernel
theorem d_Md_laysDance_21 : decode m_Md_laysDance.2.1 21 = .ok (.imul, 1) := by decide +kernel
theorem d_Md_laysDance_22 : decode m_Md_laysDance.2.1 22 = .ok (.iload 4, 2) := by decide +kernel
theorem d_Md_laysDance_24 : decode m_Md_laysDance.2.1 24 = .ok (.iadd, 1) := by decide +kernel
theorem d_Md_laysDance_25 : decode m_Md_laysDance.2.1 25 = .ok (.laload, 1) := by decide +kernel
theorem d_Md_laysDance_26 : decode m_Md_laysDance.2.1 26 = .ok (.l2i, 1) := by decide +kernel
theorem d_Md_laysDance_27 : decode m_Md_laysDance.2.1 27 = .ok (.istore 5, 2) := by decide +kernel
theorem d_Md_laysDance_29 : decode m_Md_laysDance.2.1 29 = .ok (.aload_n 0, 1) := by decide +kernel
theorem d_Md_laysDance_30 : decode m_Md_laysDance.2.1 30 = .ok (.iload 5, 2) := by decide +kernel
theorem d_Md_laysDance_32 : decode m_Md_laysDance.2.1 32 = .ok (.iconst 2, 1) := by decide +kernel
theorem d_Md_laysDance_33 : decode m_Md_laysDance.2.1 33 = .ok (.idiv, 1) := by decide +kernel
theorem d_Md_laysDance_34 : decode m_Md_laysDance.2.1 34 = .ok (.iload 4, 2) := by decide +kernel
theorem d_Md_laysDance_36 : decode m_Md_laysDance.2.1 36 = .ok (.iload_n 3, 1) := by decide +kernel
theorem d_Md_laysDance_37 : decode m_Md_laysDance.2.1 37 = .ok (.if_icmp .ne 12, 3) := by decide +kernel
theorem d_Md_laysDance_49 : decode m_Md_laysDance.2.1 49 = .ok (.iload 5, 2) := by decide +kernel
theorem d_Md_laysDance_51 : decode m_Md_laysDance.2.1 51 = .ok (.iconst 2, 1) := by decide +kernel
theorem d_Md_laysDance_52 : decode m_Md_laysDance.2.1 52 = .ok (.irem, 1) := by decide +kernel
theorem d_Md_laysDance_53 : decode m_Md_laysDance.2.1 53 = .ok (.invokevirtual 410, 3) := by decide +kernel
abbrev m_Md_addsDance : aw_MI := (⟨"MaypoleGreenModel", "addsDance", "(II)V"⟩, prog_14_method_102_code, 6, none)
theorem lk_Md_410 : Cond.methodLink "MaypoleGreenModel" 410 m_Md_addsDance.1 ∈ aw_T := aw_in 1813 (by decide +kernel) rfl
theorem k_Md_addsDance : aw_K m_Md_addsDance 2 := ⟨aw_in 1816 (by decide +kernel) rfl, aw_in 16 (by decide +kernel) rfl, ⟨by decide, by decide, by decide +kernel⟩, by decide, by decide +kernel⟩
theorem in_Md_addsDance : Cond.instanceMethod m_Md_addsDance.1 ∈ aw_T := aw_in 1815 (by decide +kernel) rfl
theorem se_Md_addsDance : Cond.selects m_Md_addsDance.1.cls m_Md_addsDance.1 m_Md_addsDance.1 ∈ aw_T := aw_inP 118 (by decide +kernel) rfl
theorem d_Md_laysDance_56 : decode m_Md_laysDance.2.1 56 = .ok (.iinc 4 1, 3) := by decide +kernel
theorem d_Md_laysDance_59 : decode m_Md_laysDance.2.1 59 = .ok (.goto (-51), 3) := by decide +kernel
theorem d_Md_laysDance_40 : decode m_Md_laysDance.2.1 40 = .ok (.iconst 1, 1) := by decide +kernel
theorem d_Md_laysDance_41 : decode m_Md_laysDance.2.1 41 = .ok (.iload 5, 2) := by decide +kernel
theorem d_Md_laysDance_43 : decode m_Md_laysDance.2.1 43 = .ok (.iconst 2, 1) := by decide +kernel
theorem d_Md_laysDance_44 : decode m_Md_laysDance.2.1 44 = .ok (.irem, 1) := by decide +kernel
theorem d_Md_laysDance_45 : decode m_Md_laysDance.2.1 45 = .ok (.isub, 1) := by decide +kernel
theorem d_Md_laysDance_46 : decode m_Md_laysDance.2.1 46 = .ok (.goto 7, 3) := by decide +kernel
theorem d_Md_addsDance_0 : decode m_Md_addsDance.2.1 0 = .ok (.iconst (-1), 1) := by decide +kernel
theorem d_Md_addsDance_1 : decode m_Md_addsDance.2.1 1 = .ok (.istore_n 3, 1) := by decide +kernel
theorem d_Md_addsDance_2 : decode m_Md_addsDance.2.1 2 = .ok (.iconst 0, 1) := by decide +kernel
theorem d_Md_addsDance_3 : decode m_Md_addsDance.2.1 3 = .ok (.istore 4, 2) := by decide +kernel
theorem d_Md_addsDance_5 : decode m_Md_addsDance.2.1 5 = .ok (.iload 4, 2) := by decide +kernel
theorem d_Md_addsDance_7 : decode m_Md_addsDance.2.1 7 = .ok (.aload_n 0, 1) := by decide +kernel
theorem d_Md_addsDance_8 : decode m_Md_addsDance.2.1 8 = .ok (.getfield 407, 3) := by decide +kernel
theorem d_Md_addsDance_11 : decode m_Md_addsDance.2.1 11 = .ok (.if_icmp .ge 23, 3) := by decide +kernel
theorem d_Md_addsDance_34 : decode m_Md_addsDance.2.1 34 = .ok (.iload_n 3, 1) := by decide +kernel
theorem d_Md_addsDance_35 : decode m_Md_addsDance.2.1 35 = .ok (.iconst (-1), 1) := by decide +kernel
theorem d_Md_addsDance_36 : decode m_Md_addsDance.2.1 36 = .ok (.if_icmp .eq 17, 3) := by decide +kernel
theorem d_Md_addsDance_53 : decode m_Md_addsDance.2.1 53 = .ok (.iconst 0, 1) := by decide +kernel
theorem d_Md_addsDance_54 : decode m_Md_addsDance.2.1 54 = .ok (.istore 4, 2) := by decide +kernel
theorem d_Md_addsDance_56 : decode m_Md_addsDance.2.1 56 = .ok (.iload_n 3, 1) := by decide +kernel
theorem d_Md_addsDance_57 : decode m_Md_addsDance.2.1 57 = .ok (.iconst 1, 1) := by decide +kernel
theorem d_Md_addsDance_58 : decode m_Md_addsDance.2.1 58 = .ok (.iadd, 1) := by decide +kernel
theorem d_Md_addsDance_59 : decode m_Md_addsDance.2.1 59 = .ok (.istore 5, 2) := by decide +kernel
theorem d_Md_addsDance_39 : decode m_Md_addsDance.2.1 39 = .ok (.aload_n 0, 1) := by decide +kernel
theorem d_Md_addsDance_40 : decode m_Md_addsDance.2.1 40 = .ok (.getfield 66, 3) := by decide +kernel
theorem f_Md_66 : aw_F "MaypoleGreenModel" 66 11 32 true := ⟨cR11, cT11, 52, fun k => cY11.getD k .int, rfl, ci11, cy11, cn11, rfl, by decide, aw_in 1287 (by decide +kernel) rfl, rfl, rfl, rfl⟩
theorem d_Md_addsDance_43 : decode m_Md_addsDance.2.1 43 = .ok (.iload_n 3, 1) := by decide +kernel
theorem d_Md_addsDance_44 : decode m_Md_addsDance.2.1 44 = .ok (.iaload, 1) := by decide +kernel
theorem d_Md_addsDance_45 : decode m_Md_addsDance.2.1 45 = .ok (.iload_n 2, 1) := by decide +kernel
theorem d_Md_addsDance_46 : decode m_Md_addsDance.2.1 46 = .ok (.if_icmp .eq 7, 3) := by decide +kernel
theorem d_Md_addsDance_49 : decode m_Md_addsDance.2.1 49 = .ok (.iconst 1, 1) := by decide +kernel
theorem d_Md_addsDance_50 : decode m_Md_addsDance.2.1 50 = .ok (.goto 4, 3) := by decide +kernel
theorem d_Md_addsDance_14 : decode m_Md_addsDance.2.1 14 = .ok (.aload_n 0, 1) := by decide +kernel
theorem d_Md_addsDance_15 : decode m_Md_addsDance.2.1 15 = .ok (.getfield 63, 3) := by decide +kernel
theorem f_Md_63 : aw_F "MaypoleGreenModel" 63 11 31 true := ⟨cR11, cT11, 52, fun k => cY11.getD k .int, rfl, ci11, cy11, cn11, rfl, by decide, aw_in 1286 (by decide +kernel) rfl, rfl, rfl, rfl⟩
theorem d_Md_addsDance_18 : decode m_Md_addsDance.2.1 18 = .ok (.iload 4, 2) := by decide +kernel
theorem d_Md_addsDance_20 : decode m_Md_addsDance.2.1 20 = .ok (.iaload, 1) := by decide +kernel
theorem d_Md_addsDance_21 : decode m_Md_addsDance.2.1 21 = .ok (.iload_n 1, 1) := by decide +kernel
theorem d_Md_addsDance_22 : decode m_Md_addsDance.2.1 22 = .ok (.if_icmp .ne 6, 3) := by decide +kernel
theorem d_Md_addsDance_28 : decode m_Md_addsDance.2.1 28 = .ok (.iinc 4 1, 3) := by decide +kernel
theorem d_Md_addsDance_31 : decode m_Md_addsDance.2.1 31 = .ok (.goto (-26), 3) := by decide +kernel
theorem d_Md_addsDance_25 : decode m_Md_addsDance.2.1 25 = .ok (.iload 4, 2) := by decide +kernel
theorem d_Md_addsDance_27 : decode m_Md_addsDance.2.1 27 = .ok (.istore_n 3, 1) := by decide +kernel
theorem d_Md_addsDance_61 : decode m_Md_addsDance.2.1 61 = .ok (.iload 5, 2) := by decide +kernel
theorem d_Md_addsDance_63 : decode m_Md_addsDance.2.1 63 = .ok (.aload_n 0, 1) := by decide +kernel
theorem d_Md_addsDance_64 : decode m_Md_addsDance.2.1 64 = .ok (.getfield 407, 3) := by decide +kernel
theorem d_Md_addsDance_67 : decode m_Md_addsDance.2.1 67 = .ok (.if_icmp .ge 37, 3) := by decide +kernel
theorem d_Md_addsDance_104 : decode m_Md_addsDance.2.1 104 = .ok (.iload 4, 2) := by decide +kernel
theorem d_Md_addsDance_106 : decode m_Md_addsDance.2.1 106 = .ok (.ifCond .ne 34, 3) := by decide +kernel
theorem d_Md_addsDance_140 : decode m_Md_addsDance.2.1 140 = .ok (.aload_n 0, 1) := by decide +kernel
theorem d_Md_addsDance_141 : decode m_Md_addsDance.2.1 141 = .ok (.dup, 1) := by decide +kernel
theorem d_Md_addsDance_142 : decode m_Md_addsDance.2.1 142 = .ok (.getfield 407, 3) := by decide +kernel
theorem d_Md_addsDance_145 : decode m_Md_addsDance.2.1 145 = .ok (.iconst 1, 1) := by decide +kernel
theorem d_Md_addsDance_146 : decode m_Md_addsDance.2.1 146 = .ok (.isub, 1) := by decide +kernel
theorem d_Md_addsDance_147 : decode m_Md_addsDance.2.1 147 = .ok (.putfield 407, 3) := by decide +kernel
theorem d_Md_addsDance_150 : decode m_Md_addsDance.2.1 150 = .ok (.iload_n 3, 1) := by decide +kernel
theorem d_Md_addsDance_151 : decode m_Md_addsDance.2.1 151 = .ok (.istore 5, 2) := by decide +kernel
theorem d_Md_addsDance_109 : decode m_Md_addsDance.2.1 109 = .ok (.aload_n 0, 1) := by decide +kernel
theorem d_Md_addsDance_110 : decode m_Md_addsDance.2.1 110 = .ok (.getfield 63, 3) := by decide +kernel
theorem d_Md_addsDance_113 : decode m_Md_addsDance.2.1 113 = .ok (.aload_n 0, 1) := by decide +kernel
theorem d_Md_addsDance_114 : decode m_Md_addsDance.2.1 114 = .ok (.getfield 407, 3) := by decide +kernel
theorem d_Md_addsDance_117 : decode m_Md_addsDance.2.1 117 = .ok (.iload_n 1, 1) := by decide +kernel
theorem d_Md_addsDance_118 : decode m_Md_addsDance.2.1 118 = .ok (.iastore, 1) := by decide +kernel
theorem d_Md_addsDance_119 : decode m_Md_addsDance.2.1 119 = .ok (.aload_n 0, 1) := by decide +kernel
theorem d_Md_addsDance_120 : decode m_Md_addsDance.2.1 120 = .ok (.getfield 66, 3) := by decide +kernel
theorem d_Md_addsDance_123 : decode m_Md_addsDance.2.1 123 = .ok (.aload_n 0, 1) := by decide +kernel
theorem d_Md_addsDance_124 : decode m_Md_addsDance.2.1 124 = .ok (.getfield 407, 3) := by decide +kernel
theorem d_Md_addsDance_127 : decode m_Md_addsDance.2.1 127 = .ok (.iload_n 2, 1) := by decide +kernel
theorem d_Md_addsDance_128 : decode m_Md_addsDance.2.1 128 = .ok (.iastore, 1) := by decide +kernel
theorem d_Md_addsDance_129 : decode m_Md_addsDance.2.1 129 = .ok (.aload_n 0, 1) := by decide +kernel
theorem d_Md_addsDance_130 : decode m_Md_addsDance.2.1 130 = .ok (.dup, 1) := by decide +kernel
theorem d_Md_addsDance_131 : decode m_Md_addsDance.2.1 131 = .ok (.getfield 407, 3) := by decide +kernel
theorem d_Md_addsDance_134 : decode m_Md_addsDance.2.1 134 = .ok (.iconst 1, 1) := by decide +kernel
theorem d_Md_addsDance_135 : decode m_Md_addsDance.2.1 135 = .ok (.iadd, 1) := by decide +kernel
theorem d_Md_addsDance_136 : decode m_Md_addsDance.2.1 136 = .ok (.putfield 407, 3) := by decide +kernel
theorem d_Md_addsDance_139 : decode m_Md_addsDance.2.1 139 = .ok (.return_, 1) := by decide +kernel
theorem d_Md_addsDance_70 : decode m_Md_addsDance.2.1 70 = .ok (.iload 4, 2) := by decide +kernel
theorem d_Md_addsDance_72 : decode m_Md_addsDance.2.1 72 = .ok (.ifCond .eq 32, 3) := by decide +kernel
theorem d_Md_addsDance_75 : decode m_Md_addsDance.2.1 75 = .ok (.aload_n 0, 1) := by decide +kernel
theorem d_Md_addsDance_76 : decode m_Md_addsDance.2.1 76 = .ok (.iconst 0, 1) := by decide +kernel
theorem d_Md_addsDance_77 : decode m_Md_addsDance.2.1 77 = .ok (.aload_n 0, 1) := by decide +kernel
theorem d_Md_addsDance_78 : decode m_Md_addsDance.2.1 78 = .ok (.getfield 63, 3) := by decide +kernel
theorem d_Md_addsDance_81 : decode m_Md_addsDance.2.1 81 = .ok (.iload 5, 2) := by decide +kernel
theorem d_Md_addsDance_83 : decode m_Md_addsDance.2.1 83 = .ok (.iaload, 1) := by decide +kernel
theorem d_Md_addsDance_84 : decode m_Md_addsDance.2.1 84 = .ok (.iload_n 1, 1) := by decide +kernel
theorem d_Md_addsDance_85 : decode m_Md_addsDance.2.1 85 = .ok (.invokevirtual 217, 3) := by decide +kernel
theorem d_Md_addsDance_88 : decode m_Md_addsDance.2.1 88 = .ok (.ifCond .ne 7, 3) := by decide +kernel
theorem d_Md_addsDance_95 : decode m_Md_addsDance.2.1 95 = .ok (.iconst 0, 1) := by decide +kernel
theorem d_Md_addsDance_96 : decode m_Md_addsDance.2.1 96 = .ok (.istore 4, 2) := by decide +kernel
theorem d_Md_addsDance_98 : decode m_Md_addsDance.2.1 98 = .ok (.iinc 5 1, 3) := by decide +kernel
theorem d_Md_addsDance_101 : decode m_Md_addsDance.2.1 101 = .ok (.goto (-40), 3) := by decide +kernel
theorem d_Md_addsDance_91 : decode m_Md_addsDance.2.1 91 = .ok (.iconst 1, 1) := by decide +kernel
theorem d_Md_addsDance_92 : decode m_Md_addsDance.2.1 92 = .ok (.goto 4, 3) := by decide +kernel
theorem d_Md_addsDance_153 : decode m_Md_addsDance.2.1 153 = .ok (.iload 5, 2) := by decide +kernel
theorem d_Md_addsDance_155 : decode m_Md_addsDance.2.1 155 = .ok (.aload_n 0, 1) := by decide +kernel
theorem d_Md_addsDance_156 : decode m_Md_addsDance.2.1 156 = .ok (.getfield 407, 3) := by decide +kernel
theorem d_Md_addsDance_159 : decode m_Md_addsDance.2.1 159 = .ok (.if_icmp .ge 41, 3) := by decide +kernel
theorem d_Md_addsDance_200 : decode m_Md_addsDance.2.1 200 = .ok (.return_, 1) := by decide +kernel
theorem d_Md_addsDance_162 : decode m_Md_addsDance.2.1 162 = .ok (.aload_n 0, 1) := by decide +kernel
theorem d_Md_addsDance_163 : decode m_Md_addsDance.2.1 163 = .ok (.getfield 63, 3) := by decide +kernel
theorem d_Md_addsDance_166 : decode m_Md_addsDance.2.1 166 = .ok (.iload 5, 2) := by decide +kernel
theorem d_Md_addsDance_168 : decode m_Md_addsDance.2.1 168 = .ok (.aload_n 0, 1) := by decide +kernel
theorem d_Md_addsDance_169 : decode m_Md_addsDance.2.1 169 = .ok (.getfield 63, 3) := by decide +kernel
theorem d_Md_addsDance_172 : decode m_Md_addsDance.2.1 172 = .ok (.iload 5, 2) := by decide +kernel
theorem d_Md_addsDance_174 : decode m_Md_addsDance.2.1 174 = .ok (.iconst 1, 1) := by decide +kernel
theorem d_Md_addsDance_175 : decode m_Md_addsDance.2.1 175 = .ok (.iadd, 1) := by decide +kernel
theorem d_Md_addsDance_176 : decode m_Md_addsDance.2.1 176 = .ok (.iaload, 1) := by decide +kernel
theorem d_Md_addsDance_177 : decode m_Md_addsDance.2.1 177 = .ok (.iastore, 1) := by decide +kernel
theorem d_Md_addsDance_178 : decode m_Md_addsDance.2.1 178 = .ok (.aload_n 0, 1) := by decide +kernel
theorem d_Md_addsDance_179 : decode m_Md_addsDance.2.1 179 = .ok (.getfield 66, 3) := by decide +kernel
theorem d_Md_addsDance_182 : decode m_Md_addsDance.2.1 182 = .ok (.iload 5, 2) := by decide +kernel
theorem d_Md_addsDance_184 : decode m_Md_addsDance.2.1 184 = .ok (.aload_n 0, 1) := by decide +kernel
theorem d_Md_addsDance_185 : decode m_Md_addsDance.2.1 185 = .ok (.getfield 66, 3) := by decide +kernel
theorem d_Md_addsDance_188 : decode m_Md_addsDance.2.1 188 = .ok (.iload 5, 2) := by decide +kernel
theorem d_Md_addsDance_190 : decode m_Md_addsDance.2.1 190 = .ok (.iconst 1, 1) := by decide +kernel
theorem d_Md_addsDance_191 : decode m_Md_addsDance.2.1 191 = .ok (.iadd, 1) := by decide +kernel
theorem d_Md_addsDance_192 : decode m_Md_addsDance.2.1 192 = .ok (.iaload, 1) := by decide +kernel
theorem d_Md_addsDance_193 : decode m_Md_addsDance.2.1 193 = .ok (.iastore, 1) := by decide +kernel
theorem d_Md_addsDance_194 : decode m_Md_addsDance.2.1 194 = .ok (.iinc 5 1, 3) := by decide +kernel
theorem d_Md_addsDance_197 : decode m_Md_addsDance.2.1 197 = .ok (.goto (-44), 3) := by decide +kernel
theorem d_Md_apartNow_0 : decode m_Md_apartNow.2.1 0 = .ok (.aload_n 0, 1) := by decide +kernel
theorem d_Md_apartNow_1 : decode m_Md_apartNow.2.1 1 = .ok (.getfield 7, 3) := by decide +kernel
theorem d_Md_apartNow_4 : decode m_Md_apartNow.2.1 4 = .ok (.iconst 3, 1) := by decide +kernel
theorem d_Md_apartNow_5 : decode m_Md_apartNow.2.1 5 = .ok (.iaload, 1) := by decide +kernel
theorem d_Md_apartNow_6 : decode m_Md_apartNow.2.1 6 = .ok (.aload_n 0, 1) := by decide +kernel
theorem d_Md_apartNow_7 : decode m_Md_apartNow.2.1 7 = .ok (.getfield 407, 3) := by decide +kernel
theorem d_Md_apartNow_10 : decode m_Md_apartNow.2.1 10 = .ok (.iadd, 1) := by decide +kernel
theorem d_Md_apartNow_11 : decode m_Md_apartNow.2.1 11 = .ok (.iconst 2, 1) := by decide +kernel
theorem d_Md_apartNow_12 : decode m_Md_apartNow.2.1 12 = .ok (.aload_n 0, 1) := by decide +kernel
theorem d_Md_apartNow_13 : decode m_Md_apartNow.2.1 13 = .ok (.invokevirtual 417, 3) := by decide +kernel
abbrev m_Md_alike : aw_MI := (⟨"MaypoleGreenModel", "alike", "()I"⟩, prog_14_method_105_code, 5, some .int)
theorem lk_Md_417 : Cond.methodLink "MaypoleGreenModel" 417 m_Md_alike.1 ∈ aw_T := aw_in 1821 (by decide +kernel) rfl
theorem k_Md_alike : aw_K m_Md_alike 0 := ⟨aw_in 1824 (by decide +kernel) rfl, aw_in 16 (by decide +kernel) rfl, ⟨by decide, by decide, by decide +kernel⟩, by decide, by decide +kernel⟩
theorem in_Md_alike : Cond.instanceMethod m_Md_alike.1 ∈ aw_T := aw_in 1823 (by decide +kernel) rfl
theorem se_Md_alike : Cond.selects m_Md_alike.1.cls m_Md_alike.1 m_Md_alike.1 ∈ aw_T := aw_inP 120 (by decide +kernel) rfl
theorem d_Md_apartNow_16 : decode m_Md_apartNow.2.1 16 = .ok (.imul, 1) := by decide +kernel
theorem d_Md_apartNow_17 : decode m_Md_apartNow.2.1 17 = .ok (.isub, 1) := by decide +kernel
theorem d_Md_apartNow_18 : decode m_Md_apartNow.2.1 18 = .ok (.ireturn, 1) := by decide +kernel
theorem d_Md_alike_0 : decode m_Md_alike.2.1 0 = .ok (.iconst 0, 1) := by decide +kernel
theorem d_Md_alike_1 : decode m_Md_alike.2.1 1 = .ok (.istore_n 1, 1) := by decide +kernel
theorem d_Md_alike_2 : decode m_Md_alike.2.1 2 = .ok (.iload_n 1, 1) := by decide +kernel
theorem d_Md_alike_3 : decode m_Md_alike.2.1 3 = .ok (.bipush 40, 2) := by decide +kernel
theorem d_Md_alike_5 : decode m_Md_alike.2.1 5 = .ok (.if_icmp .ge 49, 3) := by decide +kernel
theorem d_Md_alike_54 : decode m_Md_alike.2.1 54 = .ok (.iconst 0, 1) := by decide +kernel
theorem d_Md_alike_55 : decode m_Md_alike.2.1 55 = .ok (.istore_n 1, 1) := by decide +kernel
theorem d_Md_alike_56 : decode m_Md_alike.2.1 56 = .ok (.iconst 0, 1) := by decide +kernel
theorem d_Md_alike_57 : decode m_Md_alike.2.1 57 = .ok (.istore_n 2, 1) := by decide +kernel
theorem d_Md_alike_8 : decode m_Md_alike.2.1 8 = .ok (.aload_n 0, 1) := by decide +kernel
theorem d_Md_alike_9 : decode m_Md_alike.2.1 9 = .ok (.getfield 69, 3) := by decide +kernel
theorem f_Md_69 : aw_F "MaypoleGreenModel" 69 11 34 true := ⟨cR11, cT11, 52, fun k => cY11.getD k .int, rfl, ci11, cy11, cn11, rfl, by decide, aw_in 1289 (by decide +kernel) rfl, rfl, rfl, rfl⟩
theorem d_Md_alike_12 : decode m_Md_alike.2.1 12 = .ok (.iload_n 1, 1) := by decide +kernel
theorem d_Md_alike_13 : decode m_Md_alike.2.1 13 = .ok (.iload_n 1, 1) := by decide +kernel
theorem d_Md_alike_14 : decode m_Md_alike.2.1 14 = .ok (.aload_n 0, 1) := by decide +kernel
theorem d_Md_alike_15 : decode m_Md_alike.2.1 15 = .ok (.getfield 7, 3) := by decide +kernel
theorem d_Md_alike_18 : decode m_Md_alike.2.1 18 = .ok (.iconst 3, 1) := by decide +kernel
theorem d_Md_alike_19 : decode m_Md_alike.2.1 19 = .ok (.iaload, 1) := by decide +kernel
theorem d_Md_alike_20 : decode m_Md_alike.2.1 20 = .ok (.if_icmp .ge 7, 3) := by decide +kernel
theorem d_Md_alike_27 : decode m_Md_alike.2.1 27 = .ok (.iconst 0, 1) := by decide +kernel
theorem d_Md_alike_28 : decode m_Md_alike.2.1 28 = .ok (.bastore, 1) := by decide +kernel
theorem d_Md_alike_29 : decode m_Md_alike.2.1 29 = .ok (.aload_n 0, 1) := by decide +kernel
theorem d_Md_alike_30 : decode m_Md_alike.2.1 30 = .ok (.getfield 72, 3) := by decide +kernel
theorem f_Md_72 : aw_F "MaypoleGreenModel" 72 11 35 true := ⟨cR11, cT11, 52, fun k => cY11.getD k .int, rfl, ci11, cy11, cn11, rfl, by decide, aw_in 1290 (by decide +kernel) rfl, rfl, rfl, rfl⟩
theorem d_Md_alike_33 : decode m_Md_alike.2.1 33 = .ok (.iload_n 1, 1) := by decide +kernel
theorem d_Md_alike_34 : decode m_Md_alike.2.1 34 = .ok (.iload_n 1, 1) := by decide +kernel
theorem d_Md_alike_35 : decode m_Md_alike.2.1 35 = .ok (.aload_n 0, 1) := by decide +kernel
theorem d_Md_alike_36 : decode m_Md_alike.2.1 36 = .ok (.getfield 407, 3) := by decide +kernel
theorem d_Md_alike_39 : decode m_Md_alike.2.1 39 = .ok (.if_icmp .ge 7, 3) := by decide +kernel
theorem d_Md_alike_46 : decode m_Md_alike.2.1 46 = .ok (.iconst 0, 1) := by decide +kernel
theorem d_Md_alike_47 : decode m_Md_alike.2.1 47 = .ok (.bastore, 1) := by decide +kernel
theorem d_Md_alike_48 : decode m_Md_alike.2.1 48 = .ok (.iinc 1 1, 3) := by decide +kernel
theorem d_Md_alike_51 : decode m_Md_alike.2.1 51 = .ok (.goto (-49), 3) := by decide +kernel
theorem d_Md_alike_42 : decode m_Md_alike.2.1 42 = .ok (.iconst 1, 1) := by decide +kernel
theorem d_Md_alike_43 : decode m_Md_alike.2.1 43 = .ok (.goto 4, 3) := by decide +kernel
theorem d_Md_alike_23 : decode m_Md_alike.2.1 23 = .ok (.iconst 1, 1) := by decide +kernel
theorem d_Md_alike_24 : decode m_Md_alike.2.1 24 = .ok (.goto 4, 3) := by decide +kernel
theorem d_Md_alike_58 : decode m_Md_alike.2.1 58 = .ok (.iload_n 2, 1) := by decide +kernel
theorem d_Md_alike_59 : decode m_Md_alike.2.1 59 = .ok (.aload_n 0, 1) := by decide +kernel
theorem d_Md_alike_60 : decode m_Md_alike.2.1 60 = .ok (.iconst 0, 1) := by decide +kernel
theorem d_Md_alike_61 : decode m_Md_alike.2.1 61 = .ok (.invokevirtual 260, 3) := by decide +kernel
theorem d_Md_alike_64 : decode m_Md_alike.2.1 64 = .ok (.if_icmp .ge 74, 3) := by decide +kernel
theorem d_Md_alike_138 : decode m_Md_alike.2.1 138 = .ok (.iload_n 1, 1) := by decide +kernel
theorem d_Md_alike_139 : decode m_Md_alike.2.1 139 = .ok (.ireturn, 1) := by decide +kernel
theorem d_Md_alike_67 : decode m_Md_alike.2.1 67 = .ok (.aload_n 0, 1) := by decide +kernel
theorem d_Md_alike_68 : decode m_Md_alike.2.1 68 = .ok (.iconst 1, 1) := by decide +kernel
theorem d_Md_alike_69 : decode m_Md_alike.2.1 69 = .ok (.iload_n 2, 1) := by decide +kernel
theorem d_Md_alike_70 : decode m_Md_alike.2.1 70 = .ok (.invokevirtual 413, 3) := by decide +kernel
abbrev m_Md_lowest : aw_MI := (⟨"MaypoleGreenModel", "lowest", "(ZI)I"⟩, prog_14_method_104_code, 7, some .int)
theorem lk_Md_413 : Cond.methodLink "MaypoleGreenModel" 413 m_Md_lowest.1 ∈ aw_T := aw_in 1825 (by decide +kernel) rfl
theorem k_Md_lowest : aw_K m_Md_lowest 2 := ⟨aw_in 1828 (by decide +kernel) rfl, aw_in 16 (by decide +kernel) rfl, ⟨by decide, by decide, by decide +kernel⟩, by decide, by decide +kernel⟩
theorem in_Md_lowest : Cond.instanceMethod m_Md_lowest.1 ∈ aw_T := aw_in 1827 (by decide +kernel) rfl
theorem se_Md_lowest : Cond.selects m_Md_lowest.1.cls m_Md_lowest.1 m_Md_lowest.1 ∈ aw_T := aw_inP 121 (by decide +kernel) rfl
theorem d_Md_alike_73 : decode m_Md_alike.2.1 73 = .ok (.istore_n 3, 1) := by decide +kernel
theorem d_Md_alike_74 : decode m_Md_alike.2.1 74 = .ok (.aload_n 0, 1) := by decide +kernel
theorem d_Md_alike_75 : decode m_Md_alike.2.1 75 = .ok (.iconst 0, 1) := by decide +kernel
theorem d_Md_alike_76 : decode m_Md_alike.2.1 76 = .ok (.iload_n 2, 1) := by decide +kernel
theorem d_Md_alike_77 : decode m_Md_alike.2.1 77 = .ok (.invokevirtual 413, 3) := by decide +kernel
theorem d_Md_alike_80 : decode m_Md_alike.2.1 80 = .ok (.istore 4, 2) := by decide +kernel
theorem d_Md_alike_82 : decode m_Md_alike.2.1 82 = .ok (.iload_n 3, 1) := by decide +kernel
theorem d_Md_alike_83 : decode m_Md_alike.2.1 83 = .ok (.iconst (-1), 1) := by decide +kernel
theorem d_Md_alike_84 : decode m_Md_alike.2.1 84 = .ok (.if_icmp .eq 25, 3) := by decide +kernel
theorem d_Md_alike_109 : decode m_Md_alike.2.1 109 = .ok (.iinc 2 1, 3) := by decide +kernel
theorem d_Md_alike_112 : decode m_Md_alike.2.1 112 = .ok (.goto (-54), 3) := by decide +kernel
theorem d_Md_alike_87 : decode m_Md_alike.2.1 87 = .ok (.iload 4, 2) := by decide +kernel
theorem d_Md_alike_89 : decode m_Md_alike.2.1 89 = .ok (.iconst (-1), 1) := by decide +kernel
theorem d_Md_alike_90 : decode m_Md_alike.2.1 90 = .ok (.if_icmp .eq 19, 3) := by decide +kernel
theorem d_Md_alike_93 : decode m_Md_alike.2.1 93 = .ok (.aload_n 0, 1) := by decide +kernel
theorem d_Md_alike_94 : decode m_Md_alike.2.1 94 = .ok (.iload_n 3, 1) := by decide +kernel
theorem d_Md_alike_95 : decode m_Md_alike.2.1 95 = .ok (.iconst 1, 1) := by decide +kernel
theorem d_Md_alike_96 : decode m_Md_alike.2.1 96 = .ok (.invokevirtual 316, 3) := by decide +kernel
theorem d_Md_alike_99 : decode m_Md_alike.2.1 99 = .ok (.aload_n 0, 1) := by decide +kernel
theorem d_Md_alike_100 : decode m_Md_alike.2.1 100 = .ok (.getfield 66, 3) := by decide +kernel
theorem d_Md_alike_103 : decode m_Md_alike.2.1 103 = .ok (.iload 4, 2) := by decide +kernel
theorem d_Md_alike_105 : decode m_Md_alike.2.1 105 = .ok (.iaload, 1) := by decide +kernel
theorem d_Md_alike_106 : decode m_Md_alike.2.1 106 = .ok (.if_icmp .eq 9, 3) := by decide +kernel
theorem d_Md_alike_115 : decode m_Md_alike.2.1 115 = .ok (.aload_n 0, 1) := by decide +kernel
theorem d_Md_alike_116 : decode m_Md_alike.2.1 116 = .ok (.getfield 69, 3) := by decide +kernel
theorem d_Md_alike_119 : decode m_Md_alike.2.1 119 = .ok (.iload_n 3, 1) := by decide +kernel
theorem d_Md_alike_120 : decode m_Md_alike.2.1 120 = .ok (.iconst 0, 1) := by decide +kernel
theorem d_Md_alike_121 : decode m_Md_alike.2.1 121 = .ok (.bastore, 1) := by decide +kernel
theorem d_Md_alike_122 : decode m_Md_alike.2.1 122 = .ok (.aload_n 0, 1) := by decide +kernel
theorem d_Md_alike_123 : decode m_Md_alike.2.1 123 = .ok (.getfield 72, 3) := by decide +kernel
theorem d_Md_alike_126 : decode m_Md_alike.2.1 126 = .ok (.iload 4, 2) := by decide +kernel
theorem d_Md_alike_128 : decode m_Md_alike.2.1 128 = .ok (.iconst 0, 1) := by decide +kernel
theorem d_Md_alike_129 : decode m_Md_alike.2.1 129 = .ok (.bastore, 1) := by decide +kernel
theorem d_Md_alike_130 : decode m_Md_alike.2.1 130 = .ok (.iinc 1 1, 3) := by decide +kernel
theorem d_Md_alike_133 : decode m_Md_alike.2.1 133 = .ok (.iconst 0, 1) := by decide +kernel
theorem d_Md_alike_134 : decode m_Md_alike.2.1 134 = .ok (.istore_n 2, 1) := by decide +kernel
theorem d_Md_alike_135 : decode m_Md_alike.2.1 135 = .ok (.goto (-77), 3) := by decide +kernel
theorem d_Md_lowest_0 : decode m_Md_lowest.2.1 0 = .ok (.iload_n 1, 1) := by decide +kernel
theorem d_Md_lowest_1 : decode m_Md_lowest.2.1 1 = .ok (.ifCond .eq 12, 3) := by decide +kernel
theorem d_Md_lowest_13 : decode m_Md_lowest.2.1 13 = .ok (.aload_n 0, 1) := by decide +kernel
theorem d_Md_lowest_14 : decode m_Md_lowest.2.1 14 = .ok (.getfield 407, 3) := by decide +kernel
theorem d_Md_lowest_17 : decode m_Md_lowest.2.1 17 = .ok (.istore_n 3, 1) := by decide +kernel
theorem d_Md_lowest_18 : decode m_Md_lowest.2.1 18 = .ok (.iconst 0, 1) := by decide +kernel
theorem d_Md_lowest_19 : decode m_Md_lowest.2.1 19 = .ok (.istore 4, 2) := by decide +kernel
theorem d_Md_lowest_4 : decode m_Md_lowest.2.1 4 = .ok (.aload_n 0, 1) := by decide +kernel
theorem d_Md_lowest_5 : decode m_Md_lowest.2.1 5 = .ok (.getfield 7, 3) := by decide +kernel
theorem d_Md_lowest_8 : decode m_Md_lowest.2.1 8 = .ok (.iconst 3, 1) := by decide +kernel
theorem d_Md_lowest_9 : decode m_Md_lowest.2.1 9 = .ok (.iaload, 1) := by decide +kernel
theorem d_Md_lowest_10 : decode m_Md_lowest.2.1 10 = .ok (.goto 7, 3) := by decide +kernel
theorem d_Md_lowest_21 : decode m_Md_lowest.2.1 21 = .ok (.iload 4, 2) := by decide +kernel
theorem d_Md_lowest_23 : decode m_Md_lowest.2.1 23 = .ok (.iload_n 3, 1) := by decide +kernel
theorem d_Md_lowest_24 : decode m_Md_lowest.2.1 24 = .ok (.if_icmp .ge 87, 3) := by decide +kernel
theorem d_Md_lowest_111 : decode m_Md_lowest.2.1 111 = .ok (.iconst (-1), 1) := by decide +kernel
theorem d_Md_lowest_112 : decode m_Md_lowest.2.1 112 = .ok (.ireturn, 1) := by decide +kernel
theorem d_Md_lowest_27 : decode m_Md_lowest.2.1 27 = .ok (.iload_n 1, 1) := by decide +kernel
theorem d_Md_lowest_28 : decode m_Md_lowest.2.1 28 = .ok (.ifCond .eq 13, 3) := by decide +kernel
theorem d_Md_lowest_41 : decode m_Md_lowest.2.1 41 = .ok (.aload_n 0, 1) := by decide +kernel
theorem d_Md_lowest_42 : decode m_Md_lowest.2.1 42 = .ok (.getfield 72, 3) := by decide +kernel
theorem d_Md_lowest_45 : decode m_Md_lowest.2.1 45 = .ok (.iload 4, 2) := by decide +kernel
theorem d_Md_lowest_47 : decode m_Md_lowest.2.1 47 = .ok (.baload, 1) := by decide +kernel
theorem d_Md_lowest_48 : decode m_Md_lowest.2.1 48 = .ok (.istore 5, 2) := by decide +kernel
theorem d_Md_lowest_50 : decode m_Md_lowest.2.1 50 = .ok (.iload_n 1, 1) := by decide +kernel
theorem d_Md_lowest_51 : decode m_Md_lowest.2.1 51 = .ok (.ifCond .eq 13, 3) := by decide +kernel
theorem d_Md_lowest_64 : decode m_Md_lowest.2.1 64 = .ok (.aload_n 0, 1) := by decide +kernel
theorem d_Md_lowest_65 : decode m_Md_lowest.2.1 65 = .ok (.getfield 63, 3) := by decide +kernel
theorem d_Md_lowest_68 : decode m_Md_lowest.2.1 68 = .ok (.iload 4, 2) := by decide +kernel
theorem d_Md_lowest_70 : decode m_Md_lowest.2.1 70 = .ok (.iaload, 1) := by decide +kernel
theorem d_Md_lowest_71 : decode m_Md_lowest.2.1 71 = .ok (.istore 6, 2) := by decide +kernel
theorem d_Md_lowest_73 : decode m_Md_lowest.2.1 73 = .ok (.iload 5, 2) := by decide +kernel
theorem d_Md_lowest_75 : decode m_Md_lowest.2.1 75 = .ok (.ifCond .eq 12, 3) := by decide +kernel
theorem d_Md_lowest_87 : decode m_Md_lowest.2.1 87 = .ok (.iload 5, 2) := by decide +kernel
theorem d_Md_lowest_89 : decode m_Md_lowest.2.1 89 = .ok (.ifCond .eq 16, 3) := by decide +kernel
theorem d_Md_lowest_105 : decode m_Md_lowest.2.1 105 = .ok (.iinc 4 1, 3) := by decide +kernel
theorem d_Md_lowest_108 : decode m_Md_lowest.2.1 108 = .ok (.goto (-87), 3) := by decide +kernel
theorem d_Md_lowest_92 : decode m_Md_lowest.2.1 92 = .ok (.aload_n 0, 1) := by decide +kernel
theorem d_Md_lowest_93 : decode m_Md_lowest.2.1 93 = .ok (.iconst 0, 1) := by decide +kernel
theorem d_Md_lowest_94 : decode m_Md_lowest.2.1 94 = .ok (.iload 6, 2) := by decide +kernel
theorem d_Md_lowest_96 : decode m_Md_lowest.2.1 96 = .ok (.iload_n 2, 1) := by decide +kernel
theorem d_Md_lowest_97 : decode m_Md_lowest.2.1 97 = .ok (.invokevirtual 217, 3) := by decide +kernel
theorem d_Md_lowest_100 : decode m_Md_lowest.2.1 100 = .ok (.ifCond .eq 5, 3) := by decide +kernel
theorem d_Md_lowest_103 : decode m_Md_lowest.2.1 103 = .ok (.iconst (-1), 1) := by decide +kernel
theorem d_Md_lowest_104 : decode m_Md_lowest.2.1 104 = .ok (.ireturn, 1) := by decide +kernel
theorem d_Md_lowest_78 : decode m_Md_lowest.2.1 78 = .ok (.iload 6, 2) := by decide +kernel
theorem d_Md_lowest_80 : decode m_Md_lowest.2.1 80 = .ok (.iload_n 2, 1) := by decide +kernel
theorem d_Md_lowest_81 : decode m_Md_lowest.2.1 81 = .ok (.if_icmp .ne 6, 3) := by decide +kernel
theorem d_Md_lowest_84 : decode m_Md_lowest.2.1 84 = .ok (.iload 4, 2) := by decide +kernel
theorem d_Md_lowest_86 : decode m_Md_lowest.2.1 86 = .ok (.ireturn, 1) := by decide +kernel
theorem d_Md_lowest_54 : decode m_Md_lowest.2.1 54 = .ok (.aload_n 0, 1) := by decide +kernel
theorem d_Md_lowest_55 : decode m_Md_lowest.2.1 55 = .ok (.iload 4, 2) := by decide +kernel
theorem d_Md_lowest_57 : decode m_Md_lowest.2.1 57 = .ok (.iconst 0, 1) := by decide +kernel
theorem d_Md_lowest_58 : decode m_Md_lowest.2.1 58 = .ok (.invokevirtual 316, 3) := by decide +kernel
theorem d_Md_lowest_61 : decode m_Md_lowest.2.1 61 = .ok (.goto 10, 3) := by decide +kernel
theorem d_Md_lowest_31 : decode m_Md_lowest.2.1 31 = .ok (.aload_n 0, 1) := by decide +kernel
theorem d_Md_lowest_32 : decode m_Md_lowest.2.1 32 = .ok (.getfield 69, 3) := by decide +kernel
theorem d_Md_lowest_35 : decode m_Md_lowest.2.1 35 = .ok (.iload 4, 2) := by decide +kernel
theorem d_Md_lowest_37 : decode m_Md_lowest.2.1 37 = .ok (.baload, 1) := by decide +kernel
theorem d_Md_lowest_38 : decode m_Md_lowest.2.1 38 = .ok (.goto 10, 3) := by decide +kernel
abbrev m_Md_apart : aw_MI := (⟨"MaypoleGreenModel", "apart", "(II)I"⟩, prog_14_method_108_code, 4, some .int)
theorem k_Md_apart : aw_K m_Md_apart 2 := ⟨aw_in 1832 (by decide +kernel) rfl, aw_in 16 (by decide +kernel) rfl, ⟨by decide, by decide, by decide +kernel⟩, by decide, by decide +kernel⟩
theorem d_Md_apart_0 : decode m_Md_apart.2.1 0 = .ok (.aload_n 0, 1) := by decide +kernel
theorem d_Md_apart_1 : decode m_Md_apart.2.1 1 = .ok (.iload_n 1, 1) := by decide +kernel
theorem d_Md_apart_2 : decode m_Md_apart.2.1 2 = .ok (.iload_n 2, 1) := by decide +kernel
theorem d_Md_apart_3 : decode m_Md_apart.2.1 3 = .ok (.invokevirtual 420, 3) := by decide +kernel
theorem d_Md_apart_6 : decode m_Md_apart.2.1 6 = .ok (.istore_n 3, 1) := by decide +kernel
theorem d_Md_apart_7 : decode m_Md_apart.2.1 7 = .ok (.iload_n 3, 1) := by decide +kernel
theorem d_Md_apart_8 : decode m_Md_apart.2.1 8 = .ok (.ifCond .le 9, 3) := by decide +kernel
theorem d_Md_apart_17 : decode m_Md_apart.2.1 17 = .ok (.aload_n 0, 1) := by decide +kernel
theorem d_Md_apart_18 : decode m_Md_apart.2.1 18 = .ok (.iload_n 1, 1) := by decide +kernel
theorem d_Md_apart_19 : decode m_Md_apart.2.1 19 = .ok (.iload_n 2, 1) := by decide +kernel
theorem d_Md_apart_20 : decode m_Md_apart.2.1 20 = .ok (.iconst (-1), 1) := by decide +kernel
theorem d_Md_apart_21 : decode m_Md_apart.2.1 21 = .ok (.invokevirtual 423, 3) := by decide +kernel
theorem d_Md_apart_24 : decode m_Md_apart.2.1 24 = .ok (.aload_n 0, 1) := by decide +kernel
theorem d_Md_apart_25 : decode m_Md_apart.2.1 25 = .ok (.aload_n 0, 1) := by decide +kernel
theorem d_Md_apart_26 : decode m_Md_apart.2.1 26 = .ok (.invokevirtual 427, 3) := by decide +kernel
theorem d_Md_apart_29 : decode m_Md_apart.2.1 29 = .ok (.invokevirtual 122, 3) := by decide +kernel
theorem d_Md_apart_32 : decode m_Md_apart.2.1 32 = .ok (.ireturn, 1) := by decide +kernel
theorem d_Md_apart_11 : decode m_Md_apart.2.1 11 = .ok (.aload_n 0, 1) := by decide +kernel
theorem d_Md_apart_12 : decode m_Md_apart.2.1 12 = .ok (.iload_n 3, 1) := by decide +kernel
theorem d_Md_apart_13 : decode m_Md_apart.2.1 13 = .ok (.invokevirtual 118, 3) := by decide +kernel
theorem d_Md_apart_16 : decode m_Md_apart.2.1 16 = .ok (.ireturn, 1) := by decide +kernel
abbrev m_Md_slips : aw_MI := (⟨"MaypoleGreenModel", "slips", "(II)I"⟩, prog_14_method_110_code, 4, some .int)
theorem k_Md_slips : aw_K m_Md_slips 2 := ⟨aw_in 1836 (by decide +kernel) rfl, aw_in 16 (by decide +kernel) rfl, ⟨by decide, by decide, by decide +kernel⟩, by decide, by decide +kernel⟩
theorem d_Md_slips_0 : decode m_Md_slips.2.1 0 = .ok (.aload_n 0, 1) := by decide +kernel
theorem d_Md_slips_1 : decode m_Md_slips.2.1 1 = .ok (.iload_n 1, 1) := by decide +kernel
theorem d_Md_slips_2 : decode m_Md_slips.2.1 2 = .ok (.iload_n 2, 1) := by decide +kernel
theorem d_Md_slips_3 : decode m_Md_slips.2.1 3 = .ok (.invokevirtual 420, 3) := by decide +kernel
theorem d_Md_slips_6 : decode m_Md_slips.2.1 6 = .ok (.istore_n 3, 1) := by decide +kernel
theorem d_Md_slips_7 : decode m_Md_slips.2.1 7 = .ok (.iload_n 3, 1) := by decide +kernel
theorem d_Md_slips_8 : decode m_Md_slips.2.1 8 = .ok (.ifCond .le 11, 3) := by decide +kernel
theorem d_Md_slips_19 : decode m_Md_slips.2.1 19 = .ok (.aload_n 0, 1) := by decide +kernel
theorem d_Md_slips_20 : decode m_Md_slips.2.1 20 = .ok (.aload_n 0, 1) := by decide +kernel
theorem d_Md_slips_21 : decode m_Md_slips.2.1 21 = .ok (.iload_n 1, 1) := by decide +kernel
theorem d_Md_slips_22 : decode m_Md_slips.2.1 22 = .ok (.iload_n 2, 1) := by decide +kernel
theorem d_Md_slips_23 : decode m_Md_slips.2.1 23 = .ok (.iconst (-1), 1) := by decide +kernel
theorem d_Md_slips_24 : decode m_Md_slips.2.1 24 = .ok (.invokevirtual 430, 3) := by decide +kernel
abbrev m_Md_slipOf : aw_MI := (⟨"MaypoleGreenModel", "slipOf", "(III)I"⟩, prog_14_method_109_code, 6, some .int)
theorem lk_Md_430 : Cond.methodLink "MaypoleGreenModel" 430 m_Md_slipOf.1 ∈ aw_T := aw_in 1837 (by decide +kernel) rfl
theorem k_Md_slipOf : aw_K m_Md_slipOf 3 := ⟨aw_in 1840 (by decide +kernel) rfl, aw_in 16 (by decide +kernel) rfl, ⟨by decide, by decide, by decide +kernel⟩, by decide, by decide +kernel⟩
theorem in_Md_slipOf : Cond.instanceMethod m_Md_slipOf.1 ∈ aw_T := aw_in 1839 (by decide +kernel) rfl
theorem se_Md_slipOf : Cond.selects m_Md_slipOf.1.cls m_Md_slipOf.1 m_Md_slipOf.1 ∈ aw_T := aw_inP 122 (by decide +kernel) rfl
theorem d_Md_slips_27 : decode m_Md_slips.2.1 27 = .ok (.invokevirtual 122, 3) := by decide +kernel
theorem d_Md_slips_30 : decode m_Md_slips.2.1 30 = .ok (.ireturn, 1) := by decide +kernel
theorem d_Md_slips_11 : decode m_Md_slips.2.1 11 = .ok (.aload_n 0, 1) := by decide +kernel
theorem d_Md_slips_12 : decode m_Md_slips.2.1 12 = .ok (.iload_n 3, 1) := by decide +kernel
theorem d_Md_slips_13 : decode m_Md_slips.2.1 13 = .ok (.invokevirtual 118, 3) := by decide +kernel
theorem d_Md_slips_16 : decode m_Md_slips.2.1 16 = .ok (.goto 14, 3) := by decide +kernel
theorem d_Md_slipOf_0 : decode m_Md_slipOf.2.1 0 = .ok (.iconst 0, 1) := by decide +kernel
theorem d_Md_slipOf_1 : decode m_Md_slipOf.2.1 1 = .ok (.istore 4, 2) := by decide +kernel
theorem d_Md_slipOf_3 : decode m_Md_slipOf.2.1 3 = .ok (.iconst 0, 1) := by decide +kernel
theorem d_Md_slipOf_4 : decode m_Md_slipOf.2.1 4 = .ok (.istore 5, 2) := by decide +kernel
theorem d_Md_slipOf_6 : decode m_Md_slipOf.2.1 6 = .ok (.iload 5, 2) := by decide +kernel
theorem d_Md_slipOf_8 : decode m_Md_slipOf.2.1 8 = .ok (.iload_n 2, 1) := by decide +kernel
theorem d_Md_slipOf_9 : decode m_Md_slipOf.2.1 9 = .ok (.if_icmp .ge 39, 3) := by decide +kernel
theorem d_Md_slipOf_48 : decode m_Md_slipOf.2.1 48 = .ok (.iload_n 3, 1) := by decide +kernel
theorem d_Md_slipOf_49 : decode m_Md_slipOf.2.1 49 = .ok (.ifCond .ge 8, 3) := by decide +kernel
theorem d_Md_slipOf_57 : decode m_Md_slipOf.2.1 57 = .ok (.iconst (-1), 1) := by decide +kernel
theorem d_Md_slipOf_58 : decode m_Md_slipOf.2.1 58 = .ok (.ireturn, 1) := by decide +kernel
theorem d_Md_slipOf_52 : decode m_Md_slipOf.2.1 52 = .ok (.iload 4, 2) := by decide +kernel
theorem d_Md_slipOf_54 : decode m_Md_slipOf.2.1 54 = .ok (.goto 4, 3) := by decide +kernel
theorem d_Md_slipOf_12 : decode m_Md_slipOf.2.1 12 = .ok (.aload_n 0, 1) := by decide +kernel
theorem d_Md_slipOf_13 : decode m_Md_slipOf.2.1 13 = .ok (.iload_n 1, 1) := by decide +kernel
theorem d_Md_slipOf_14 : decode m_Md_slipOf.2.1 14 = .ok (.iload_n 2, 1) := by decide +kernel
theorem d_Md_slipOf_15 : decode m_Md_slipOf.2.1 15 = .ok (.iload 5, 2) := by decide +kernel
theorem d_Md_slipOf_17 : decode m_Md_slipOf.2.1 17 = .ok (.invokevirtual 423, 3) := by decide +kernel
theorem d_Md_slipOf_20 : decode m_Md_slipOf.2.1 20 = .ok (.aload_n 0, 1) := by decide +kernel
theorem d_Md_slipOf_21 : decode m_Md_slipOf.2.1 21 = .ok (.invokevirtual 427, 3) := by decide +kernel
theorem d_Md_slipOf_24 : decode m_Md_slipOf.2.1 24 = .ok (.ifCond .le 6, 3) := by decide +kernel
theorem d_Md_slipOf_30 : decode m_Md_slipOf.2.1 30 = .ok (.iload 4, 2) := by decide +kernel
theorem d_Md_slipOf_32 : decode m_Md_slipOf.2.1 32 = .ok (.iload_n 3, 1) := by decide +kernel
theorem d_Md_slipOf_33 : decode m_Md_slipOf.2.1 33 = .ok (.if_icmp .ne 6, 3) := by decide +kernel
theorem d_Md_slipOf_39 : decode m_Md_slipOf.2.1 39 = .ok (.iinc 4 1, 3) := by decide +kernel
theorem d_Md_slipOf_42 : decode m_Md_slipOf.2.1 42 = .ok (.iinc 5 1, 3) := by decide +kernel
theorem d_Md_slipOf_45 : decode m_Md_slipOf.2.1 45 = .ok (.goto (-39), 3) := by decide +kernel
theorem d_Md_slipOf_36 : decode m_Md_slipOf.2.1 36 = .ok (.iload 5, 2) := by decide +kernel
theorem d_Md_slipOf_38 : decode m_Md_slipOf.2.1 38 = .ok (.ireturn, 1) := by decide +kernel
theorem d_Md_slipOf_27 : decode m_Md_slipOf.2.1 27 = .ok (.goto 15, 3) := by decide +kernel
