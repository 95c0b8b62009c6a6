abbrev m_Pl_undoneBy : aw_MI := (⟨"MaypoleGreen$Plait", "undoneBy", "(III)I"⟩, prog_8_method_8_code, 6, some .int)
theorem k_Pl_undoneBy : aw_K m_Pl_undoneBy 3 := ⟨aw_in 676 (by decide +kernel) rfl, aw_in 4 (by decide +kernel) rfl, ⟨by decide, by decide, by decide +kernel⟩, by decide, by decide +kernel⟩
theorem d_Pl_undoneBy_0 : decode m_Pl_undoneBy.2.1 0 = .ok (.aload_n 0, 1) := by decide +kernel
theorem d_Pl_undoneBy_1 : decode m_Pl_undoneBy.2.1 1 = .ok (.getfield 22, 3) := by decide +kernel
theorem f_Pl_22 : aw_F "MaypoleGreen$Plait" 22 3 1 false := ⟨cR3, cT3, 2, fun k => cY3.getD k .int, rfl, ci3, cy3, cn3, rfl, by decide, aw_in 71 (by decide +kernel) rfl, rfl, rfl, rfl⟩
theorem d_Pl_undoneBy_4 : decode m_Pl_undoneBy.2.1 4 = .ok (.iconst 1, 1) := by decide +kernel
theorem d_Pl_undoneBy_5 : decode m_Pl_undoneBy.2.1 5 = .ok (.isub, 1) := by decide +kernel
theorem d_Pl_undoneBy_6 : decode m_Pl_undoneBy.2.1 6 = .ok (.istore 4, 2) := by decide +kernel
theorem d_Pl_undoneBy_8 : decode m_Pl_undoneBy.2.1 8 = .ok (.iload 4, 2) := by decide +kernel
theorem d_Pl_undoneBy_10 : decode m_Pl_undoneBy.2.1 10 = .ok (.ifCond .lt 58, 3) := by decide +kernel
theorem d_Pl_undoneBy_68 : decode m_Pl_undoneBy.2.1 68 = .ok (.iconst (-1), 1) := by decide +kernel
theorem d_Pl_undoneBy_69 : decode m_Pl_undoneBy.2.1 69 = .ok (.ireturn, 1) := by decide +kernel
theorem d_Pl_undoneBy_13 : decode m_Pl_undoneBy.2.1 13 = .ok (.aload_n 0, 1) := by decide +kernel
theorem d_Pl_undoneBy_14 : decode m_Pl_undoneBy.2.1 14 = .ok (.getfield 9, 3) := by decide +kernel
theorem f_Pl_9 : aw_F "MaypoleGreen$Plait" 9 3 0 true := ⟨cR3, cT3, 2, fun k => cY3.getD k .int, rfl, ci3, cy3, cn3, rfl, by decide, aw_in 68 (by decide +kernel) rfl, rfl, rfl, rfl⟩
theorem d_Pl_undoneBy_17 : decode m_Pl_undoneBy.2.1 17 = .ok (.iload 4, 2) := by decide +kernel
theorem d_Pl_undoneBy_19 : decode m_Pl_undoneBy.2.1 19 = .ok (.iaload, 1) := by decide +kernel
theorem d_Pl_undoneBy_20 : decode m_Pl_undoneBy.2.1 20 = .ok (.bipush 7, 2) := by decide +kernel
theorem d_Pl_undoneBy_22 : decode m_Pl_undoneBy.2.1 22 = .ok (.iand, 1) := by decide +kernel
theorem d_Pl_undoneBy_23 : decode m_Pl_undoneBy.2.1 23 = .ok (.istore 5, 2) := by decide +kernel
theorem d_Pl_undoneBy_25 : decode m_Pl_undoneBy.2.1 25 = .ok (.iload_n 3, 1) := by decide +kernel
theorem d_Pl_undoneBy_26 : decode m_Pl_undoneBy.2.1 26 = .ok (.iload 5, 2) := by decide +kernel
theorem d_Pl_undoneBy_28 : decode m_Pl_undoneBy.2.1 28 = .ok (.ishr, 1) := by decide +kernel
theorem d_Pl_undoneBy_29 : decode m_Pl_undoneBy.2.1 29 = .ok (.iconst 1, 1) := by decide +kernel
theorem d_Pl_undoneBy_30 : decode m_Pl_undoneBy.2.1 30 = .ok (.iand, 1) := by decide +kernel
theorem d_Pl_undoneBy_31 : decode m_Pl_undoneBy.2.1 31 = .ok (.ifCond .eq 31, 3) := by decide +kernel
theorem d_Pl_undoneBy_62 : decode m_Pl_undoneBy.2.1 62 = .ok (.iinc 4 (-1), 3) := by decide +kernel
theorem d_Pl_undoneBy_65 : decode m_Pl_undoneBy.2.1 65 = .ok (.goto (-57), 3) := by decide +kernel
theorem d_Pl_undoneBy_34 : decode m_Pl_undoneBy.2.1 34 = .ok (.iload 5, 2) := by decide +kernel
theorem d_Pl_undoneBy_36 : decode m_Pl_undoneBy.2.1 36 = .ok (.iload_n 1, 1) := by decide +kernel
theorem d_Pl_undoneBy_37 : decode m_Pl_undoneBy.2.1 37 = .ok (.if_icmp .ne 23, 3) := by decide +kernel
theorem d_Pl_undoneBy_60 : decode m_Pl_undoneBy.2.1 60 = .ok (.iconst (-1), 1) := by decide +kernel
theorem d_Pl_undoneBy_61 : decode m_Pl_undoneBy.2.1 61 = .ok (.ireturn, 1) := by decide +kernel
theorem d_Pl_undoneBy_40 : decode m_Pl_undoneBy.2.1 40 = .ok (.aload_n 0, 1) := by decide +kernel
theorem d_Pl_undoneBy_41 : decode m_Pl_undoneBy.2.1 41 = .ok (.getfield 9, 3) := by decide +kernel
theorem d_Pl_undoneBy_44 : decode m_Pl_undoneBy.2.1 44 = .ok (.iload 4, 2) := by decide +kernel
theorem d_Pl_undoneBy_46 : decode m_Pl_undoneBy.2.1 46 = .ok (.iaload, 1) := by decide +kernel
theorem d_Pl_undoneBy_47 : decode m_Pl_undoneBy.2.1 47 = .ok (.iconst 3, 1) := by decide +kernel
theorem d_Pl_undoneBy_48 : decode m_Pl_undoneBy.2.1 48 = .ok (.ishr, 1) := by decide +kernel
theorem d_Pl_undoneBy_49 : decode m_Pl_undoneBy.2.1 49 = .ok (.iconst 1, 1) := by decide +kernel
theorem d_Pl_undoneBy_50 : decode m_Pl_undoneBy.2.1 50 = .ok (.iand, 1) := by decide +kernel
theorem d_Pl_undoneBy_51 : decode m_Pl_undoneBy.2.1 51 = .ok (.iload_n 2, 1) := by decide +kernel
theorem d_Pl_undoneBy_52 : decode m_Pl_undoneBy.2.1 52 = .ok (.if_icmp .eq 8, 3) := by decide +kernel
theorem d_Pl_undoneBy_55 : decode m_Pl_undoneBy.2.1 55 = .ok (.iload 4, 2) := by decide +kernel
theorem d_Pl_undoneBy_57 : decode m_Pl_undoneBy.2.1 57 = .ok (.goto 4, 3) := by decide +kernel
abbrev m_Pl_upperAt : aw_MI := (⟨"MaypoleGreen$Plait", "upperAt", "(I)I"⟩, prog_8_method_5_code, 2, some .int)
theorem k_Pl_upperAt : aw_K m_Pl_upperAt 1 := ⟨aw_in 684 (by decide +kernel) rfl, aw_in 4 (by decide +kernel) rfl, ⟨by decide, by decide, by decide +kernel⟩, by decide, by decide +kernel⟩
theorem d_Pl_upperAt_0 : decode m_Pl_upperAt.2.1 0 = .ok (.aload_n 0, 1) := by decide +kernel
theorem d_Pl_upperAt_1 : decode m_Pl_upperAt.2.1 1 = .ok (.getfield 9, 3) := by decide +kernel
theorem d_Pl_upperAt_4 : decode m_Pl_upperAt.2.1 4 = .ok (.iload_n 1, 1) := by decide +kernel
theorem d_Pl_upperAt_5 : decode m_Pl_upperAt.2.1 5 = .ok (.iaload, 1) := by decide +kernel
theorem d_Pl_upperAt_6 : decode m_Pl_upperAt.2.1 6 = .ok (.iconst 4, 1) := by decide +kernel
theorem d_Pl_upperAt_7 : decode m_Pl_upperAt.2.1 7 = .ok (.ishr, 1) := by decide +kernel
theorem d_Pl_upperAt_8 : decode m_Pl_upperAt.2.1 8 = .ok (.bipush 7, 2) := by decide +kernel
theorem d_Pl_upperAt_10 : decode m_Pl_upperAt.2.1 10 = .ok (.iand, 1) := by decide +kernel
theorem d_Pl_upperAt_11 : decode m_Pl_upperAt.2.1 11 = .ok (.ireturn, 1) := by decide +kernel
abbrev m_Pl_lowerAt : aw_MI := (⟨"MaypoleGreen$Plait", "lowerAt", "(I)I"⟩, prog_8_method_6_code, 2, some .int)
theorem k_Pl_lowerAt : aw_K m_Pl_lowerAt 1 := ⟨aw_in 688 (by decide +kernel) rfl, aw_in 4 (by decide +kernel) rfl, ⟨by decide, by decide, by decide +kernel⟩, by decide, by decide +kernel⟩
theorem d_Pl_lowerAt_0 : decode m_Pl_lowerAt.2.1 0 = .ok (.aload_n 0, 1) := by decide +kernel
theorem d_Pl_lowerAt_1 : decode m_Pl_lowerAt.2.1 1 = .ok (.getfield 9, 3) := by decide +kernel
theorem d_Pl_lowerAt_4 : decode m_Pl_lowerAt.2.1 4 = .ok (.iload_n 1, 1) := by decide +kernel
theorem d_Pl_lowerAt_5 : decode m_Pl_lowerAt.2.1 5 = .ok (.iaload, 1) := by decide +kernel
theorem d_Pl_lowerAt_6 : decode m_Pl_lowerAt.2.1 6 = .ok (.bipush 7, 2) := by decide +kernel
theorem d_Pl_lowerAt_8 : decode m_Pl_lowerAt.2.1 8 = .ok (.ishr, 1) := by decide +kernel
theorem d_Pl_lowerAt_9 : decode m_Pl_lowerAt.2.1 9 = .ok (.bipush 7, 2) := by decide +kernel
theorem d_Pl_lowerAt_11 : decode m_Pl_lowerAt.2.1 11 = .ok (.iand, 1) := by decide +kernel
theorem d_Pl_lowerAt_12 : decode m_Pl_lowerAt.2.1 12 = .ok (.ireturn, 1) := by decide +kernel
abbrev m_Pl_gapAt : aw_MI := (⟨"MaypoleGreen$Plait", "gapAt", "(I)I"⟩, prog_8_method_3_code, 2, some .int)
theorem k_Pl_gapAt : aw_K m_Pl_gapAt 1 := ⟨aw_in 692 (by decide +kernel) rfl, aw_in 4 (by decide +kernel) rfl, ⟨by decide, by decide, by decide +kernel⟩, by decide, by decide +kernel⟩
theorem d_Pl_gapAt_0 : decode m_Pl_gapAt.2.1 0 = .ok (.aload_n 0, 1) := by decide +kernel
theorem d_Pl_gapAt_1 : decode m_Pl_gapAt.2.1 1 = .ok (.getfield 9, 3) := by decide +kernel
theorem d_Pl_gapAt_4 : decode m_Pl_gapAt.2.1 4 = .ok (.iload_n 1, 1) := by decide +kernel
theorem d_Pl_gapAt_5 : decode m_Pl_gapAt.2.1 5 = .ok (.iaload, 1) := by decide +kernel
theorem d_Pl_gapAt_6 : decode m_Pl_gapAt.2.1 6 = .ok (.bipush 7, 2) := by decide +kernel
theorem d_Pl_gapAt_8 : decode m_Pl_gapAt.2.1 8 = .ok (.iand, 1) := by decide +kernel
theorem d_Pl_gapAt_9 : decode m_Pl_gapAt.2.1 9 = .ok (.ireturn, 1) := by decide +kernel
abbrev m_Pl_remove : aw_MI := (⟨"MaypoleGreen$Plait", "remove", "(I)V"⟩, prog_8_method_14_code, 2, none)
theorem k_Pl_remove : aw_K m_Pl_remove 1 := ⟨aw_in 700 (by decide +kernel) rfl, aw_in 4 (by decide +kernel) rfl, ⟨by decide, by decide, by decide +kernel⟩, by decide, by decide +kernel⟩
theorem d_Pl_remove_0 : decode m_Pl_remove.2.1 0 = .ok (.iload_n 1, 1) := by decide +kernel
theorem d_Pl_remove_1 : decode m_Pl_remove.2.1 1 = .ok (.ifCond .lt 11, 3) := by decide +kernel
theorem d_Pl_remove_12 : decode m_Pl_remove.2.1 12 = .ok (.return_, 1) := by decide +kernel
theorem d_Pl_remove_4 : decode m_Pl_remove.2.1 4 = .ok (.iload_n 1, 1) := by decide +kernel
theorem d_Pl_remove_5 : decode m_Pl_remove.2.1 5 = .ok (.aload_n 0, 1) := by decide +kernel
theorem d_Pl_remove_6 : decode m_Pl_remove.2.1 6 = .ok (.getfield 22, 3) := by decide +kernel
theorem d_Pl_remove_9 : decode m_Pl_remove.2.1 9 = .ok (.if_icmp .lt 4, 3) := by decide +kernel
theorem d_Pl_remove_13 : decode m_Pl_remove.2.1 13 = .ok (.aload_n 0, 1) := by decide +kernel
theorem d_Pl_remove_14 : decode m_Pl_remove.2.1 14 = .ok (.dup, 1) := by decide +kernel
theorem d_Pl_remove_15 : decode m_Pl_remove.2.1 15 = .ok (.getfield 22, 3) := by decide +kernel
theorem d_Pl_remove_18 : decode m_Pl_remove.2.1 18 = .ok (.iconst 1, 1) := by decide +kernel
theorem d_Pl_remove_19 : decode m_Pl_remove.2.1 19 = .ok (.isub, 1) := by decide +kernel
theorem d_Pl_remove_20 : decode m_Pl_remove.2.1 20 = .ok (.putfield 22, 3) := by decide +kernel
theorem d_Pl_remove_23 : decode m_Pl_remove.2.1 23 = .ok (.aload_n 0, 1) := by decide +kernel
theorem d_Pl_remove_24 : decode m_Pl_remove.2.1 24 = .ok (.getfield 9, 3) := by decide +kernel
theorem d_Pl_remove_27 : decode m_Pl_remove.2.1 27 = .ok (.iload_n 1, 1) := by decide +kernel
theorem d_Pl_remove_28 : decode m_Pl_remove.2.1 28 = .ok (.iconst 1, 1) := by decide +kernel
theorem d_Pl_remove_29 : decode m_Pl_remove.2.1 29 = .ok (.iadd, 1) := by decide +kernel
theorem d_Pl_remove_30 : decode m_Pl_remove.2.1 30 = .ok (.aload_n 0, 1) := by decide +kernel
theorem d_Pl_remove_31 : decode m_Pl_remove.2.1 31 = .ok (.getfield 9, 3) := by decide +kernel
theorem d_Pl_remove_34 : decode m_Pl_remove.2.1 34 = .ok (.iload_n 1, 1) := by decide +kernel
theorem d_Pl_remove_35 : decode m_Pl_remove.2.1 35 = .ok (.aload_n 0, 1) := by decide +kernel
theorem d_Pl_remove_36 : decode m_Pl_remove.2.1 36 = .ok (.getfield 22, 3) := by decide +kernel
theorem d_Pl_remove_39 : decode m_Pl_remove.2.1 39 = .ok (.iload_n 1, 1) := by decide +kernel
theorem d_Pl_remove_40 : decode m_Pl_remove.2.1 40 = .ok (.isub, 1) := by decide +kernel
theorem d_Pl_remove_41 : decode m_Pl_remove.2.1 41 = .ok (.invokestatic 33, 3) := by decide +kernel
theorem ck_Pl_33 : Cond.methodLink "MaypoleGreen$Plait" 33 arraycopyName ∈ aw_T := aw_in 701 (by decide +kernel) rfl
theorem d_Pl_remove_44 : decode m_Pl_remove.2.1 44 = .ok (.return_, 1) := by decide +kernel
abbrev m_Pl_packed : aw_MI := (⟨"MaypoleGreen$Plait", "packed", "(IIII)I"⟩, prog_8_method_2_code, 4, some .int)
theorem k_Pl_packed : aw_K m_Pl_packed 4 := ⟨aw_in 708 (by decide +kernel) rfl, aw_in 4 (by decide +kernel) rfl, ⟨by decide, by decide, by decide +kernel⟩, by decide, by decide +kernel⟩
theorem d_Pl_packed_0 : decode m_Pl_packed.2.1 0 = .ok (.iload_n 0, 1) := by decide +kernel
theorem d_Pl_packed_1 : decode m_Pl_packed.2.1 1 = .ok (.iload_n 1, 1) := by decide +kernel
theorem d_Pl_packed_2 : decode m_Pl_packed.2.1 2 = .ok (.iconst 3, 1) := by decide +kernel
theorem d_Pl_packed_3 : decode m_Pl_packed.2.1 3 = .ok (.ishl, 1) := by decide +kernel
theorem d_Pl_packed_4 : decode m_Pl_packed.2.1 4 = .ok (.ior, 1) := by decide +kernel
theorem d_Pl_packed_5 : decode m_Pl_packed.2.1 5 = .ok (.iload_n 2, 1) := by decide +kernel
theorem d_Pl_packed_6 : decode m_Pl_packed.2.1 6 = .ok (.iconst 4, 1) := by decide +kernel
theorem d_Pl_packed_7 : decode m_Pl_packed.2.1 7 = .ok (.ishl, 1) := by decide +kernel
theorem d_Pl_packed_8 : decode m_Pl_packed.2.1 8 = .ok (.ior, 1) := by decide +kernel
theorem d_Pl_packed_9 : decode m_Pl_packed.2.1 9 = .ok (.iload_n 3, 1) := by decide +kernel
theorem d_Pl_packed_10 : decode m_Pl_packed.2.1 10 = .ok (.bipush 7, 2) := by decide +kernel
theorem d_Pl_packed_12 : decode m_Pl_packed.2.1 12 = .ok (.ishl, 1) := by decide +kernel
theorem d_Pl_packed_13 : decode m_Pl_packed.2.1 13 = .ok (.ior, 1) := by decide +kernel
theorem d_Pl_packed_14 : decode m_Pl_packed.2.1 14 = .ok (.ireturn, 1) := by decide +kernel
abbrev m_Pl_insert : aw_MI := (⟨"MaypoleGreen$Plait", "insert", "(II)V"⟩, prog_8_method_13_code, 3, none)
theorem k_Pl_insert : aw_K m_Pl_insert 2 := ⟨aw_in 716 (by decide +kernel) rfl, aw_in 4 (by decide +kernel) rfl, ⟨by decide, by decide, by decide +kernel⟩, by decide, by decide +kernel⟩
theorem d_Pl_insert_0 : decode m_Pl_insert.2.1 0 = .ok (.iload_n 1, 1) := by decide +kernel
theorem d_Pl_insert_1 : decode m_Pl_insert.2.1 1 = .ok (.ifCond .lt 23, 3) := by decide +kernel
theorem d_Pl_insert_24 : decode m_Pl_insert.2.1 24 = .ok (.return_, 1) := by decide +kernel
theorem d_Pl_insert_4 : decode m_Pl_insert.2.1 4 = .ok (.iload_n 1, 1) := by decide +kernel
theorem d_Pl_insert_5 : decode m_Pl_insert.2.1 5 = .ok (.aload_n 0, 1) := by decide +kernel
theorem d_Pl_insert_6 : decode m_Pl_insert.2.1 6 = .ok (.getfield 22, 3) := by decide +kernel
theorem d_Pl_insert_9 : decode m_Pl_insert.2.1 9 = .ok (.if_icmp .gt 15, 3) := by decide +kernel
theorem d_Pl_insert_12 : decode m_Pl_insert.2.1 12 = .ok (.aload_n 0, 1) := by decide +kernel
theorem d_Pl_insert_13 : decode m_Pl_insert.2.1 13 = .ok (.getfield 22, 3) := by decide +kernel
theorem d_Pl_insert_16 : decode m_Pl_insert.2.1 16 = .ok (.aload_n 0, 1) := by decide +kernel
theorem d_Pl_insert_17 : decode m_Pl_insert.2.1 17 = .ok (.getfield 9, 3) := by decide +kernel
theorem d_Pl_insert_20 : decode m_Pl_insert.2.1 20 = .ok (.arraylength, 1) := by decide +kernel
theorem d_Pl_insert_21 : decode m_Pl_insert.2.1 21 = .ok (.if_icmp .lt 4, 3) := by decide +kernel
theorem d_Pl_insert_25 : decode m_Pl_insert.2.1 25 = .ok (.aload_n 0, 1) := by decide +kernel
theorem d_Pl_insert_26 : decode m_Pl_insert.2.1 26 = .ok (.getfield 9, 3) := by decide +kernel
theorem d_Pl_insert_29 : decode m_Pl_insert.2.1 29 = .ok (.iload_n 1, 1) := by decide +kernel
theorem d_Pl_insert_30 : decode m_Pl_insert.2.1 30 = .ok (.aload_n 0, 1) := by decide +kernel
theorem d_Pl_insert_31 : decode m_Pl_insert.2.1 31 = .ok (.getfield 9, 3) := by decide +kernel
theorem d_Pl_insert_34 : decode m_Pl_insert.2.1 34 = .ok (.iload_n 1, 1) := by decide +kernel
theorem d_Pl_insert_35 : decode m_Pl_insert.2.1 35 = .ok (.iconst 1, 1) := by decide +kernel
theorem d_Pl_insert_36 : decode m_Pl_insert.2.1 36 = .ok (.iadd, 1) := by decide +kernel
theorem d_Pl_insert_37 : decode m_Pl_insert.2.1 37 = .ok (.aload_n 0, 1) := by decide +kernel
theorem d_Pl_insert_38 : decode m_Pl_insert.2.1 38 = .ok (.getfield 22, 3) := by decide +kernel
theorem d_Pl_insert_41 : decode m_Pl_insert.2.1 41 = .ok (.iload_n 1, 1) := by decide +kernel
theorem d_Pl_insert_42 : decode m_Pl_insert.2.1 42 = .ok (.isub, 1) := by decide +kernel
theorem d_Pl_insert_43 : decode m_Pl_insert.2.1 43 = .ok (.invokestatic 33, 3) := by decide +kernel
theorem d_Pl_insert_46 : decode m_Pl_insert.2.1 46 = .ok (.aload_n 0, 1) := by decide +kernel
theorem d_Pl_insert_47 : decode m_Pl_insert.2.1 47 = .ok (.getfield 9, 3) := by decide +kernel
theorem d_Pl_insert_50 : decode m_Pl_insert.2.1 50 = .ok (.iload_n 1, 1) := by decide +kernel
theorem d_Pl_insert_51 : decode m_Pl_insert.2.1 51 = .ok (.iload_n 2, 1) := by decide +kernel
theorem d_Pl_insert_52 : decode m_Pl_insert.2.1 52 = .ok (.iastore, 1) := by decide +kernel
theorem d_Pl_insert_53 : decode m_Pl_insert.2.1 53 = .ok (.aload_n 0, 1) := by decide +kernel
theorem d_Pl_insert_54 : decode m_Pl_insert.2.1 54 = .ok (.dup, 1) := by decide +kernel
theorem d_Pl_insert_55 : decode m_Pl_insert.2.1 55 = .ok (.getfield 22, 3) := by decide +kernel
theorem d_Pl_insert_58 : decode m_Pl_insert.2.1 58 = .ok (.iconst 1, 1) := by decide +kernel
theorem d_Pl_insert_59 : decode m_Pl_insert.2.1 59 = .ok (.iadd, 1) := by decide +kernel
theorem d_Pl_insert_60 : decode m_Pl_insert.2.1 60 = .ok (.putfield 22, 3) := by decide +kernel
theorem d_Pl_insert_63 : decode m_Pl_insert.2.1 63 = .ok (.return_, 1) := by decide +kernel
abbrev m_Pl_timesOver : aw_MI := (⟨"MaypoleGreen$Plait", "timesOver", "(I)I"⟩, prog_8_method_11_code, 4, some .int)
theorem k_Pl_timesOver : aw_K m_Pl_timesOver 1 := ⟨aw_in 843 (by decide +kernel) rfl, aw_in 4 (by decide +kernel) rfl, ⟨by decide, by decide, by decide +kernel⟩, by decide, by decide +kernel⟩
theorem d_Pl_timesOver_0 : decode m_Pl_timesOver.2.1 0 = .ok (.iconst 0, 1) := by decide +kernel
theorem d_Pl_timesOver_1 : decode m_Pl_timesOver.2.1 1 = .ok (.istore_n 2, 1) := by decide +kernel
theorem d_Pl_timesOver_2 : decode m_Pl_timesOver.2.1 2 = .ok (.iconst 0, 1) := by decide +kernel
theorem d_Pl_timesOver_3 : decode m_Pl_timesOver.2.1 3 = .ok (.istore_n 3, 1) := by decide +kernel
theorem d_Pl_timesOver_4 : decode m_Pl_timesOver.2.1 4 = .ok (.iload_n 3, 1) := by decide +kernel
theorem d_Pl_timesOver_5 : decode m_Pl_timesOver.2.1 5 = .ok (.aload_n 0, 1) := by decide +kernel
theorem d_Pl_timesOver_6 : decode m_Pl_timesOver.2.1 6 = .ok (.getfield 22, 3) := by decide +kernel
theorem d_Pl_timesOver_9 : decode m_Pl_timesOver.2.1 9 = .ok (.if_icmp .ge 21, 3) := by decide +kernel
theorem d_Pl_timesOver_30 : decode m_Pl_timesOver.2.1 30 = .ok (.iload_n 2, 1) := by decide +kernel
theorem d_Pl_timesOver_31 : decode m_Pl_timesOver.2.1 31 = .ok (.ireturn, 1) := by decide +kernel
theorem d_Pl_timesOver_12 : decode m_Pl_timesOver.2.1 12 = .ok (.aload_n 0, 1) := by decide +kernel
theorem d_Pl_timesOver_13 : decode m_Pl_timesOver.2.1 13 = .ok (.iload_n 3, 1) := by decide +kernel
theorem d_Pl_timesOver_14 : decode m_Pl_timesOver.2.1 14 = .ok (.invokevirtual 15, 3) := by decide +kernel
theorem lk_Pl_15 : Cond.methodLink "MaypoleGreen$Plait" 15 m_Pl_upperAt.1 ∈ aw_T := aw_in 844 (by decide +kernel) rfl
theorem in_Pl_upperAt : Cond.instanceMethod m_Pl_upperAt.1 ∈ aw_T := aw_in 682 (by decide +kernel) rfl
theorem se_Pl_upperAt : Cond.selects m_Pl_upperAt.1.cls m_Pl_upperAt.1 m_Pl_upperAt.1 ∈ aw_T := aw_in 683 (by decide +kernel) rfl
theorem d_Pl_timesOver_17 : decode m_Pl_timesOver.2.1 17 = .ok (.iload_n 1, 1) := by decide +kernel
theorem d_Pl_timesOver_18 : decode m_Pl_timesOver.2.1 18 = .ok (.if_icmp .ne 6, 3) := by decide +kernel
theorem d_Pl_timesOver_24 : decode m_Pl_timesOver.2.1 24 = .ok (.iinc 3 1, 3) := by decide +kernel
theorem d_Pl_timesOver_27 : decode m_Pl_timesOver.2.1 27 = .ok (.goto (-23), 3) := by decide +kernel
theorem d_Pl_timesOver_21 : decode m_Pl_timesOver.2.1 21 = .ok (.iinc 2 1, 3) := by decide +kernel
abbrev m_Pl_overAt : aw_MI := (⟨"MaypoleGreen$Plait", "overAt", "(I)I"⟩, prog_8_method_4_code, 2, some .int)
theorem k_Pl_overAt : aw_K m_Pl_overAt 1 := ⟨aw_in 861 (by decide +kernel) rfl, aw_in 4 (by decide +kernel) rfl, ⟨by decide, by decide, by decide +kernel⟩, by decide, by decide +kernel⟩
theorem d_Pl_overAt_0 : decode m_Pl_overAt.2.1 0 = .ok (.aload_n 0, 1) := by decide +kernel
theorem d_Pl_overAt_1 : decode m_Pl_overAt.2.1 1 = .ok (.getfield 9, 3) := by decide +kernel
theorem d_Pl_overAt_4 : decode m_Pl_overAt.2.1 4 = .ok (.iload_n 1, 1) := by decide +kernel
theorem d_Pl_overAt_5 : decode m_Pl_overAt.2.1 5 = .ok (.iaload, 1) := by decide +kernel
theorem d_Pl_overAt_6 : decode m_Pl_overAt.2.1 6 = .ok (.iconst 3, 1) := by decide +kernel
theorem d_Pl_overAt_7 : decode m_Pl_overAt.2.1 7 = .ok (.ishr, 1) := by decide +kernel
theorem d_Pl_overAt_8 : decode m_Pl_overAt.2.1 8 = .ok (.iconst 1, 1) := by decide +kernel
theorem d_Pl_overAt_9 : decode m_Pl_overAt.2.1 9 = .ok (.iand, 1) := by decide +kernel
theorem d_Pl_overAt_10 : decode m_Pl_overAt.2.1 10 = .ok (.ireturn, 1) := by decide +kernel
abbrev m_Pl_has : aw_MI := (⟨"MaypoleGreen$Plait", "has", "(II)Z"⟩, prog_8_method_7_code, 3, some .boolean)
theorem k_Pl_has : aw_K m_Pl_has 2 := ⟨aw_in 873 (by decide +kernel) rfl, aw_in 4 (by decide +kernel) rfl, ⟨by decide, by decide, by decide +kernel⟩, by decide, by decide +kernel⟩
theorem d_Pl_has_0 : decode m_Pl_has.2.1 0 = .ok (.aload_n 0, 1) := by decide +kernel
theorem d_Pl_has_1 : decode m_Pl_has.2.1 1 = .ok (.iload_n 1, 1) := by decide +kernel
theorem d_Pl_has_2 : decode m_Pl_has.2.1 2 = .ok (.invokevirtual 15, 3) := by decide +kernel
theorem d_Pl_has_5 : decode m_Pl_has.2.1 5 = .ok (.iload_n 2, 1) := by decide +kernel
theorem d_Pl_has_6 : decode m_Pl_has.2.1 6 = .ok (.if_icmp .eq 12, 3) := by decide +kernel
theorem d_Pl_has_18 : decode m_Pl_has.2.1 18 = .ok (.iconst 1, 1) := by decide +kernel
theorem d_Pl_has_19 : decode m_Pl_has.2.1 19 = .ok (.goto 4, 3) := by decide +kernel
theorem d_Pl_has_23 : decode m_Pl_has.2.1 23 = .ok (.ireturn, 1) := by decide +kernel
theorem d_Pl_has_9 : decode m_Pl_has.2.1 9 = .ok (.aload_n 0, 1) := by decide +kernel
theorem d_Pl_has_10 : decode m_Pl_has.2.1 10 = .ok (.iload_n 1, 1) := by decide +kernel
theorem d_Pl_has_11 : decode m_Pl_has.2.1 11 = .ok (.invokevirtual 19, 3) := by decide +kernel
theorem lk_Pl_19 : Cond.methodLink "MaypoleGreen$Plait" 19 m_Pl_lowerAt.1 ∈ aw_T := aw_in 874 (by decide +kernel) rfl
theorem in_Pl_lowerAt : Cond.instanceMethod m_Pl_lowerAt.1 ∈ aw_T := aw_in 686 (by decide +kernel) rfl
theorem se_Pl_lowerAt : Cond.selects m_Pl_lowerAt.1.cls m_Pl_lowerAt.1 m_Pl_lowerAt.1 ∈ aw_T := aw_in 687 (by decide +kernel) rfl
theorem d_Pl_has_14 : decode m_Pl_has.2.1 14 = .ok (.iload_n 2, 1) := by decide +kernel
theorem d_Pl_has_15 : decode m_Pl_has.2.1 15 = .ok (.if_icmp .ne 7, 3) := by decide +kernel
theorem d_Pl_has_22 : decode m_Pl_has.2.1 22 = .ok (.iconst 0, 1) := by decide +kernel
abbrev m_Pl_latestIn : aw_MI := (⟨"MaypoleGreen$Plait", "latestIn", "(II)I"⟩, prog_8_method_9_code, 4, some .int)
theorem k_Pl_latestIn : aw_K m_Pl_latestIn 2 := ⟨aw_in 890 (by decide +kernel) rfl, aw_in 4 (by decide +kernel) rfl, ⟨by decide, by decide, by decide +kernel⟩, by decide, by decide +kernel⟩
theorem d_Pl_latestIn_0 : decode m_Pl_latestIn.2.1 0 = .ok (.iload_n 2, 1) := by decide +kernel
theorem d_Pl_latestIn_1 : decode m_Pl_latestIn.2.1 1 = .ok (.iconst 1, 1) := by decide +kernel
theorem d_Pl_latestIn_2 : decode m_Pl_latestIn.2.1 2 = .ok (.isub, 1) := by decide +kernel
theorem d_Pl_latestIn_3 : decode m_Pl_latestIn.2.1 3 = .ok (.istore_n 3, 1) := by decide +kernel
theorem d_Pl_latestIn_4 : decode m_Pl_latestIn.2.1 4 = .ok (.iload_n 3, 1) := by decide +kernel
theorem d_Pl_latestIn_5 : decode m_Pl_latestIn.2.1 5 = .ok (.ifCond .lt 24, 3) := by decide +kernel
theorem d_Pl_latestIn_29 : decode m_Pl_latestIn.2.1 29 = .ok (.iconst (-1), 1) := by decide +kernel
theorem d_Pl_latestIn_30 : decode m_Pl_latestIn.2.1 30 = .ok (.ireturn, 1) := by decide +kernel
theorem d_Pl_latestIn_8 : decode m_Pl_latestIn.2.1 8 = .ok (.aload_n 0, 1) := by decide +kernel
theorem d_Pl_latestIn_9 : decode m_Pl_latestIn.2.1 9 = .ok (.getfield 9, 3) := by decide +kernel
theorem d_Pl_latestIn_12 : decode m_Pl_latestIn.2.1 12 = .ok (.iload_n 3, 1) := by decide +kernel
theorem d_Pl_latestIn_13 : decode m_Pl_latestIn.2.1 13 = .ok (.iaload, 1) := by decide +kernel
theorem d_Pl_latestIn_14 : decode m_Pl_latestIn.2.1 14 = .ok (.bipush 7, 2) := by decide +kernel
theorem d_Pl_latestIn_16 : decode m_Pl_latestIn.2.1 16 = .ok (.iand, 1) := by decide +kernel
theorem d_Pl_latestIn_17 : decode m_Pl_latestIn.2.1 17 = .ok (.iload_n 1, 1) := by decide +kernel
theorem d_Pl_latestIn_18 : decode m_Pl_latestIn.2.1 18 = .ok (.if_icmp .ne 5, 3) := by decide +kernel
theorem d_Pl_latestIn_23 : decode m_Pl_latestIn.2.1 23 = .ok (.iinc 3 (-1), 3) := by decide +kernel
theorem d_Pl_latestIn_26 : decode m_Pl_latestIn.2.1 26 = .ok (.goto (-22), 3) := by decide +kernel
theorem d_Pl_latestIn_21 : decode m_Pl_latestIn.2.1 21 = .ok (.iload_n 3, 1) := by decide +kernel
theorem d_Pl_latestIn_22 : decode m_Pl_latestIn.2.1 22 = .ok (.ireturn, 1) := by decide +kernel
abbrev m_Pl_timesIn : aw_MI := (⟨"MaypoleGreen$Plait", "timesIn", "(I)I"⟩, prog_8_method_10_code, 4, some .int)
theorem k_Pl_timesIn : aw_K m_Pl_timesIn 1 := ⟨aw_in 898 (by decide +kernel) rfl, aw_in 4 (by decide +kernel) rfl, ⟨by decide, by decide, by decide +kernel⟩, by decide, by decide +kernel⟩
theorem d_Pl_timesIn_0 : decode m_Pl_timesIn.2.1 0 = .ok (.iconst 0, 1) := by decide +kernel
theorem d_Pl_timesIn_1 : decode m_Pl_timesIn.2.1 1 = .ok (.istore_n 2, 1) := by decide +kernel
theorem d_Pl_timesIn_2 : decode m_Pl_timesIn.2.1 2 = .ok (.iconst 0, 1) := by decide +kernel
theorem d_Pl_timesIn_3 : decode m_Pl_timesIn.2.1 3 = .ok (.istore_n 3, 1) := by decide +kernel
theorem d_Pl_timesIn_4 : decode m_Pl_timesIn.2.1 4 = .ok (.iload_n 3, 1) := by decide +kernel
theorem d_Pl_timesIn_5 : decode m_Pl_timesIn.2.1 5 = .ok (.aload_n 0, 1) := by decide +kernel
theorem d_Pl_timesIn_6 : decode m_Pl_timesIn.2.1 6 = .ok (.getfield 22, 3) := by decide +kernel
theorem d_Pl_timesIn_9 : decode m_Pl_timesIn.2.1 9 = .ok (.if_icmp .ge 21, 3) := by decide +kernel
theorem d_Pl_timesIn_30 : decode m_Pl_timesIn.2.1 30 = .ok (.iload_n 2, 1) := by decide +kernel
theorem d_Pl_timesIn_31 : decode m_Pl_timesIn.2.1 31 = .ok (.ireturn, 1) := by decide +kernel
theorem d_Pl_timesIn_12 : decode m_Pl_timesIn.2.1 12 = .ok (.aload_n 0, 1) := by decide +kernel
theorem d_Pl_timesIn_13 : decode m_Pl_timesIn.2.1 13 = .ok (.iload_n 3, 1) := by decide +kernel
theorem d_Pl_timesIn_14 : decode m_Pl_timesIn.2.1 14 = .ok (.invokevirtual 26, 3) := by decide +kernel
theorem lk_Pl_26 : Cond.methodLink "MaypoleGreen$Plait" 26 m_Pl_gapAt.1 ∈ aw_T := aw_in 899 (by decide +kernel) rfl
theorem in_Pl_gapAt : Cond.instanceMethod m_Pl_gapAt.1 ∈ aw_T := aw_in 690 (by decide +kernel) rfl
theorem se_Pl_gapAt : Cond.selects m_Pl_gapAt.1.cls m_Pl_gapAt.1 m_Pl_gapAt.1 ∈ aw_T := aw_in 691 (by decide +kernel) rfl
theorem d_Pl_timesIn_17 : decode m_Pl_timesIn.2.1 17 = .ok (.iload_n 1, 1) := by decide +kernel
theorem d_Pl_timesIn_18 : decode m_Pl_timesIn.2.1 18 = .ok (.if_icmp .ne 6, 3) := by decide +kernel
theorem d_Pl_timesIn_24 : decode m_Pl_timesIn.2.1 24 = .ok (.iinc 3 1, 3) := by decide +kernel
theorem d_Pl_timesIn_27 : decode m_Pl_timesIn.2.1 27 = .ok (.goto (-23), 3) := by decide +kernel
theorem d_Pl_timesIn_21 : decode m_Pl_timesIn.2.1 21 = .ok (.iinc 2 1, 3) := by decide +kernel
abbrev m_Pl_add : aw_MI := (⟨"MaypoleGreen$Plait", "add", "(I)V"⟩, prog_8_method_12_code, 2, none)
theorem k_Pl_add : aw_K m_Pl_add 1 := ⟨aw_in 1019 (by decide +kernel) rfl, aw_in 4 (by decide +kernel) rfl, ⟨by decide, by decide, by decide +kernel⟩, by decide, by decide +kernel⟩
theorem d_Pl_add_0 : decode m_Pl_add.2.1 0 = .ok (.aload_n 0, 1) := by decide +kernel
theorem d_Pl_add_1 : decode m_Pl_add.2.1 1 = .ok (.aload_n 0, 1) := by decide +kernel
theorem d_Pl_add_2 : decode m_Pl_add.2.1 2 = .ok (.getfield 22, 3) := by decide +kernel
theorem d_Pl_add_5 : decode m_Pl_add.2.1 5 = .ok (.iload_n 1, 1) := by decide +kernel
theorem d_Pl_add_6 : decode m_Pl_add.2.1 6 = .ok (.invokevirtual 29, 3) := by decide +kernel
theorem lk_Pl_29 : Cond.methodLink "MaypoleGreen$Plait" 29 m_Pl_insert.1 ∈ aw_T := aw_in 1020 (by decide +kernel) rfl
theorem in_Pl_insert : Cond.instanceMethod m_Pl_insert.1 ∈ aw_T := aw_in 714 (by decide +kernel) rfl
theorem se_Pl_insert : Cond.selects m_Pl_insert.1.cls m_Pl_insert.1 m_Pl_insert.1 ∈ aw_T := aw_in 715 (by decide +kernel) rfl
theorem d_Pl_add_9 : decode m_Pl_add.2.1 9 = .ok (.return_, 1) := by decide +kernel
abbrev m_Pl_copyFrom : aw_MI := (⟨"MaypoleGreen$Plait", "copyFrom", "(LMaypoleGreen$Plait;)V"⟩, prog_8_method_15_code, 2, none)
theorem k_Pl_copyFrom : aw_K m_Pl_copyFrom 1 := ⟨aw_in 1057 (by decide +kernel) rfl, aw_in 4 (by decide +kernel) rfl, ⟨by decide, by decide, by decide +kernel⟩, by decide, by decide +kernel⟩
theorem d_Pl_copyFrom_0 : decode m_Pl_copyFrom.2.1 0 = .ok (.aload_n 0, 1) := by decide +kernel
theorem d_Pl_copyFrom_1 : decode m_Pl_copyFrom.2.1 1 = .ok (.aload_n 1, 1) := by decide +kernel
theorem d_Pl_copyFrom_2 : decode m_Pl_copyFrom.2.1 2 = .ok (.getfield 22, 3) := by decide +kernel
theorem d_Pl_copyFrom_5 : decode m_Pl_copyFrom.2.1 5 = .ok (.putfield 22, 3) := by decide +kernel
theorem d_Pl_copyFrom_8 : decode m_Pl_copyFrom.2.1 8 = .ok (.aload_n 1, 1) := by decide +kernel
theorem d_Pl_copyFrom_9 : decode m_Pl_copyFrom.2.1 9 = .ok (.getfield 9, 3) := by decide +kernel
theorem d_Pl_copyFrom_12 : decode m_Pl_copyFrom.2.1 12 = .ok (.iconst 0, 1) := by decide +kernel
theorem d_Pl_copyFrom_13 : decode m_Pl_copyFrom.2.1 13 = .ok (.aload_n 0, 1) := by decide +kernel
theorem d_Pl_copyFrom_14 : decode m_Pl_copyFrom.2.1 14 = .ok (.getfield 9, 3) := by decide +kernel
theorem d_Pl_copyFrom_17 : decode m_Pl_copyFrom.2.1 17 = .ok (.iconst 0, 1) := by decide +kernel
theorem d_Pl_copyFrom_18 : decode m_Pl_copyFrom.2.1 18 = .ok (.aload_n 1, 1) := by decide +kernel
theorem d_Pl_copyFrom_19 : decode m_Pl_copyFrom.2.1 19 = .ok (.getfield 22, 3) := by decide +kernel
theorem d_Pl_copyFrom_22 : decode m_Pl_copyFrom.2.1 22 = .ok (.invokestatic 33, 3) := by decide +kernel
theorem d_Pl_copyFrom_25 : decode m_Pl_copyFrom.2.1 25 = .ok (.return_, 1) := by decide +kernel
