abbrev m_Ho_fewest : aw_MI := (⟨"MaypoleGreen$Homing", "fewest", "(LMaypoleGreen$Green;)I"⟩, prog_5_method_2_code, 2, some .int)
theorem k_Ho_fewest : aw_K m_Ho_fewest 1 := ⟨aw_in 955 (by decide +kernel) rfl, aw_in 13 (by decide +kernel) rfl, ⟨by decide, by decide, by decide +kernel⟩, by decide, by decide +kernel⟩
theorem d_Ho_fewest_0 : decode m_Ho_fewest.2.1 0 = .ok (.aload_n 1, 1) := by decide +kernel
theorem d_Ho_fewest_1 : decode m_Ho_fewest.2.1 1 = .ok (.getfield 18, 3) := by decide +kernel
theorem f_Ho_18 : aw_F "MaypoleGreen$Homing" 18 2 9 true := ⟨cR2, cT2, 13, fun k => cY2.getD k .int, rfl, ci2, cy2, cn2, rfl, by decide, aw_in 149 (by decide +kernel) rfl, rfl, rfl, rfl⟩
theorem d_Ho_fewest_4 : decode m_Ho_fewest.2.1 4 = .ok (.iconst 0, 1) := by decide +kernel
theorem d_Ho_fewest_5 : decode m_Ho_fewest.2.1 5 = .ok (.aload_n 0, 1) := by decide +kernel
theorem d_Ho_fewest_6 : decode m_Ho_fewest.2.1 6 = .ok (.getfield 9, 3) := by decide +kernel
theorem f_Ho_9 : aw_F "MaypoleGreen$Homing" 9 8 0 true := ⟨cR8, cT8, 2, fun k => cY8.getD k .int, rfl, ci8, cy8, cn8, rfl, by decide, aw_in 357 (by decide +kernel) rfl, rfl, rfl, rfl⟩
theorem d_Ho_fewest_9 : decode m_Ho_fewest.2.1 9 = .ok (.iconst 0, 1) := by decide +kernel
theorem d_Ho_fewest_10 : decode m_Ho_fewest.2.1 10 = .ok (.bipush 7, 2) := by decide +kernel
theorem d_Ho_fewest_12 : decode m_Ho_fewest.2.1 12 = .ok (.invokestatic 21, 3) := by decide +kernel
theorem ck_Ho_21 : Cond.methodLink "MaypoleGreen$Homing" 21 arraycopyName ∈ aw_T := aw_in 956 (by decide +kernel) rfl
theorem d_Ho_fewest_15 : decode m_Ho_fewest.2.1 15 = .ok (.aload_n 0, 1) := by decide +kernel
theorem d_Ho_fewest_16 : decode m_Ho_fewest.2.1 16 = .ok (.aload_n 1, 1) := by decide +kernel
theorem d_Ho_fewest_17 : decode m_Ho_fewest.2.1 17 = .ok (.getfield 27, 3) := by decide +kernel
theorem f_Ho_27 : aw_F "MaypoleGreen$Homing" 27 2 0 false := ⟨cR2, cT2, 13, fun k => cY2.getD k .int, rfl, ci2, cy2, cn2, rfl, by decide, aw_in 124 (by decide +kernel) rfl, rfl, rfl, rfl⟩
theorem d_Ho_fewest_20 : decode m_Ho_fewest.2.1 20 = .ok (.invokevirtual 31, 3) := by decide +kernel
abbrev m_Ho_fewestFrom : aw_MI := (⟨"MaypoleGreen$Homing", "fewestFrom", "(I)I"⟩, prog_5_method_6_code, 7, some .int)
theorem lk_Ho_31 : Cond.methodLink "MaypoleGreen$Homing" 31 m_Ho_fewestFrom.1 ∈ aw_T := aw_in 957 (by decide +kernel) rfl
theorem k_Ho_fewestFrom : aw_K m_Ho_fewestFrom 1 := ⟨aw_in 960 (by decide +kernel) rfl, aw_in 13 (by decide +kernel) rfl, ⟨by decide, by decide, by decide +kernel⟩, by decide, by decide +kernel⟩
theorem in_Ho_fewestFrom : Cond.instanceMethod m_Ho_fewestFrom.1 ∈ aw_T := aw_in 959 (by decide +kernel) rfl
theorem se_Ho_fewestFrom : Cond.selects m_Ho_fewestFrom.1.cls m_Ho_fewestFrom.1 m_Ho_fewestFrom.1 ∈ aw_T := aw_inP 33 (by decide +kernel) rfl
theorem d_Ho_fewest_23 : decode m_Ho_fewest.2.1 23 = .ok (.ireturn, 1) := by decide +kernel
theorem d_Ho_fewestFrom_0 : decode m_Ho_fewestFrom.2.1 0 = .ok (.iconst 0, 1) := by decide +kernel
theorem d_Ho_fewestFrom_1 : decode m_Ho_fewestFrom.2.1 1 = .ok (.istore_n 2, 1) := by decide +kernel
theorem d_Ho_fewestFrom_2 : decode m_Ho_fewestFrom.2.1 2 = .ok (.iload_n 2, 1) := by decide +kernel
theorem d_Ho_fewestFrom_3 : decode m_Ho_fewestFrom.2.1 3 = .ok (.iload_n 1, 1) := by decide +kernel
theorem d_Ho_fewestFrom_4 : decode m_Ho_fewestFrom.2.1 4 = .ok (.if_icmp .ge 23, 3) := by decide +kernel
theorem d_Ho_fewestFrom_27 : decode m_Ho_fewestFrom.2.1 27 = .ok (.iconst 1, 1) := by decide +kernel
theorem d_Ho_fewestFrom_28 : decode m_Ho_fewestFrom.2.1 28 = .ok (.istore_n 2, 1) := by decide +kernel
theorem d_Ho_fewestFrom_29 : decode m_Ho_fewestFrom.2.1 29 = .ok (.iconst 0, 1) := by decide +kernel
theorem d_Ho_fewestFrom_30 : decode m_Ho_fewestFrom.2.1 30 = .ok (.istore_n 3, 1) := by decide +kernel
theorem d_Ho_fewestFrom_7 : decode m_Ho_fewestFrom.2.1 7 = .ok (.aload_n 0, 1) := by decide +kernel
theorem d_Ho_fewestFrom_8 : decode m_Ho_fewestFrom.2.1 8 = .ok (.getfield 15, 3) := by decide +kernel
theorem f_Ho_15 : aw_F "MaypoleGreen$Homing" 15 8 1 true := ⟨cR8, cT8, 2, fun k => cY8.getD k .int, rfl, ci8, cy8, cn8, rfl, by decide, aw_in 358 (by decide +kernel) rfl, rfl, rfl, rfl⟩
theorem d_Ho_fewestFrom_11 : decode m_Ho_fewestFrom.2.1 11 = .ok (.iload_n 2, 1) := by decide +kernel
theorem d_Ho_fewestFrom_12 : decode m_Ho_fewestFrom.2.1 12 = .ok (.aload_n 0, 1) := by decide +kernel
theorem d_Ho_fewestFrom_13 : decode m_Ho_fewestFrom.2.1 13 = .ok (.getfield 9, 3) := by decide +kernel
theorem d_Ho_fewestFrom_16 : decode m_Ho_fewestFrom.2.1 16 = .ok (.iload_n 2, 1) := by decide +kernel
theorem d_Ho_fewestFrom_17 : decode m_Ho_fewestFrom.2.1 17 = .ok (.iaload, 1) := by decide +kernel
theorem d_Ho_fewestFrom_18 : decode m_Ho_fewestFrom.2.1 18 = .ok (.iload_n 2, 1) := by decide +kernel
theorem d_Ho_fewestFrom_19 : decode m_Ho_fewestFrom.2.1 19 = .ok (.isub, 1) := by decide +kernel
theorem d_Ho_fewestFrom_20 : decode m_Ho_fewestFrom.2.1 20 = .ok (.iastore, 1) := by decide +kernel
theorem d_Ho_fewestFrom_21 : decode m_Ho_fewestFrom.2.1 21 = .ok (.iinc 2 1, 3) := by decide +kernel
theorem d_Ho_fewestFrom_24 : decode m_Ho_fewestFrom.2.1 24 = .ok (.goto (-22), 3) := by decide +kernel
theorem d_Ho_fewestFrom_31 : decode m_Ho_fewestFrom.2.1 31 = .ok (.iload_n 3, 1) := by decide +kernel
theorem d_Ho_fewestFrom_32 : decode m_Ho_fewestFrom.2.1 32 = .ok (.bipush 7, 2) := by decide +kernel
theorem d_Ho_fewestFrom_34 : decode m_Ho_fewestFrom.2.1 34 = .ok (.if_icmp .ge 19, 3) := by decide +kernel
theorem d_Ho_fewestFrom_53 : decode m_Ho_fewestFrom.2.1 53 = .ok (.iconst 0, 1) := by decide +kernel
theorem d_Ho_fewestFrom_54 : decode m_Ho_fewestFrom.2.1 54 = .ok (.istore_n 3, 1) := by decide +kernel
theorem d_Ho_fewestFrom_55 : decode m_Ho_fewestFrom.2.1 55 = .ok (.iconst 0, 1) := by decide +kernel
theorem d_Ho_fewestFrom_56 : decode m_Ho_fewestFrom.2.1 56 = .ok (.istore 4, 2) := by decide +kernel
theorem d_Ho_fewestFrom_37 : decode m_Ho_fewestFrom.2.1 37 = .ok (.iload_n 2, 1) := by decide +kernel
theorem d_Ho_fewestFrom_38 : decode m_Ho_fewestFrom.2.1 38 = .ok (.ifCond .eq 15, 3) := by decide +kernel
theorem d_Ho_fewestFrom_41 : decode m_Ho_fewestFrom.2.1 41 = .ok (.aload_n 0, 1) := by decide +kernel
theorem d_Ho_fewestFrom_42 : decode m_Ho_fewestFrom.2.1 42 = .ok (.iload_n 1, 1) := by decide +kernel
theorem d_Ho_fewestFrom_43 : decode m_Ho_fewestFrom.2.1 43 = .ok (.invokevirtual 54, 3) := by decide +kernel
abbrev m_Ho_shareWalks : aw_MI := (⟨"MaypoleGreen$Homing", "shareWalks", "(I)Z"⟩, prog_5_method_7_code, 5, some .boolean)
theorem lk_Ho_54 : Cond.methodLink "MaypoleGreen$Homing" 54 m_Ho_shareWalks.1 ∈ aw_T := aw_in 961 (by decide +kernel) rfl
theorem k_Ho_shareWalks : aw_K m_Ho_shareWalks 1 := ⟨aw_in 964 (by decide +kernel) rfl, aw_in 13 (by decide +kernel) rfl, ⟨by decide, by decide, by decide +kernel⟩, by decide, by decide +kernel⟩
theorem in_Ho_shareWalks : Cond.instanceMethod m_Ho_shareWalks.1 ∈ aw_T := aw_in 963 (by decide +kernel) rfl
theorem se_Ho_shareWalks : Cond.selects m_Ho_shareWalks.1.cls m_Ho_shareWalks.1 m_Ho_shareWalks.1 ∈ aw_T := aw_inP 34 (by decide +kernel) rfl
theorem d_Ho_fewestFrom_46 : decode m_Ho_fewestFrom.2.1 46 = .ok (.istore_n 2, 1) := by decide +kernel
theorem d_Ho_fewestFrom_47 : decode m_Ho_fewestFrom.2.1 47 = .ok (.iinc 3 1, 3) := by decide +kernel
theorem d_Ho_fewestFrom_50 : decode m_Ho_fewestFrom.2.1 50 = .ok (.goto (-19), 3) := by decide +kernel
theorem d_Ho_fewestFrom_58 : decode m_Ho_fewestFrom.2.1 58 = .ok (.iload 4, 2) := by decide +kernel
theorem d_Ho_fewestFrom_60 : decode m_Ho_fewestFrom.2.1 60 = .ok (.iload_n 1, 1) := by decide +kernel
theorem d_Ho_fewestFrom_61 : decode m_Ho_fewestFrom.2.1 61 = .ok (.if_icmp .ge 64, 3) := by decide +kernel
theorem d_Ho_fewestFrom_125 : decode m_Ho_fewestFrom.2.1 125 = .ok (.iload_n 3, 1) := by decide +kernel
theorem d_Ho_fewestFrom_126 : decode m_Ho_fewestFrom.2.1 126 = .ok (.ireturn, 1) := by decide +kernel
theorem d_Ho_fewestFrom_64 : decode m_Ho_fewestFrom.2.1 64 = .ok (.iload 4, 2) := by decide +kernel
theorem d_Ho_fewestFrom_66 : decode m_Ho_fewestFrom.2.1 66 = .ok (.iconst 1, 1) := by decide +kernel
theorem d_Ho_fewestFrom_67 : decode m_Ho_fewestFrom.2.1 67 = .ok (.iadd, 1) := by decide +kernel
theorem d_Ho_fewestFrom_68 : decode m_Ho_fewestFrom.2.1 68 = .ok (.istore 5, 2) := by decide +kernel
theorem d_Ho_fewestFrom_70 : decode m_Ho_fewestFrom.2.1 70 = .ok (.iload 5, 2) := by decide +kernel
theorem d_Ho_fewestFrom_72 : decode m_Ho_fewestFrom.2.1 72 = .ok (.iload_n 1, 1) := by decide +kernel
theorem d_Ho_fewestFrom_73 : decode m_Ho_fewestFrom.2.1 73 = .ok (.if_icmp .ge 46, 3) := by decide +kernel
theorem d_Ho_fewestFrom_119 : decode m_Ho_fewestFrom.2.1 119 = .ok (.iinc 4 1, 3) := by decide +kernel
theorem d_Ho_fewestFrom_122 : decode m_Ho_fewestFrom.2.1 122 = .ok (.goto (-64), 3) := by decide +kernel
theorem d_Ho_fewestFrom_76 : decode m_Ho_fewestFrom.2.1 76 = .ok (.iload 4, 2) := by decide +kernel
theorem d_Ho_fewestFrom_78 : decode m_Ho_fewestFrom.2.1 78 = .ok (.aload_n 0, 1) := by decide +kernel
theorem d_Ho_fewestFrom_79 : decode m_Ho_fewestFrom.2.1 79 = .ok (.getfield 15, 3) := by decide +kernel
theorem d_Ho_fewestFrom_82 : decode m_Ho_fewestFrom.2.1 82 = .ok (.iload 4, 2) := by decide +kernel
theorem d_Ho_fewestFrom_84 : decode m_Ho_fewestFrom.2.1 84 = .ok (.iaload, 1) := by decide +kernel
theorem d_Ho_fewestFrom_85 : decode m_Ho_fewestFrom.2.1 85 = .ok (.iadd, 1) := by decide +kernel
theorem d_Ho_fewestFrom_86 : decode m_Ho_fewestFrom.2.1 86 = .ok (.iload 5, 2) := by decide +kernel
theorem d_Ho_fewestFrom_88 : decode m_Ho_fewestFrom.2.1 88 = .ok (.isub, 1) := by decide +kernel
theorem d_Ho_fewestFrom_89 : decode m_Ho_fewestFrom.2.1 89 = .ok (.aload_n 0, 1) := by decide +kernel
theorem d_Ho_fewestFrom_90 : decode m_Ho_fewestFrom.2.1 90 = .ok (.getfield 15, 3) := by decide +kernel
theorem d_Ho_fewestFrom_93 : decode m_Ho_fewestFrom.2.1 93 = .ok (.iload 5, 2) := by decide +kernel
theorem d_Ho_fewestFrom_95 : decode m_Ho_fewestFrom.2.1 95 = .ok (.iaload, 1) := by decide +kernel
theorem d_Ho_fewestFrom_96 : decode m_Ho_fewestFrom.2.1 96 = .ok (.isub, 1) := by decide +kernel
theorem d_Ho_fewestFrom_97 : decode m_Ho_fewestFrom.2.1 97 = .ok (.istore 6, 2) := by decide +kernel
theorem d_Ho_fewestFrom_99 : decode m_Ho_fewestFrom.2.1 99 = .ok (.iload_n 3, 1) := by decide +kernel
theorem d_Ho_fewestFrom_100 : decode m_Ho_fewestFrom.2.1 100 = .ok (.iload 6, 2) := by decide +kernel
theorem d_Ho_fewestFrom_102 : decode m_Ho_fewestFrom.2.1 102 = .ok (.iload_n 1, 1) := by decide +kernel
theorem d_Ho_fewestFrom_103 : decode m_Ho_fewestFrom.2.1 103 = .ok (.invokestatic 58, 3) := by decide +kernel
theorem lk_Ho_58 : Cond.methodLink "MaypoleGreen$Homing" 58 m_Ma_floorDiv.1 ∈ aw_T := aw_in 965 (by decide +kernel) rfl
theorem st_Ma_floorDiv : Cond.static m_Ma_floorDiv.1 ∈ aw_T := aw_in 966 (by decide +kernel) rfl
theorem d_Ho_fewestFrom_106 : decode m_Ho_fewestFrom.2.1 106 = .ok (.iconst 1, 1) := by decide +kernel
theorem d_Ho_fewestFrom_107 : decode m_Ho_fewestFrom.2.1 107 = .ok (.iadd, 1) := by decide +kernel
theorem d_Ho_fewestFrom_108 : decode m_Ho_fewestFrom.2.1 108 = .ok (.invokestatic 64, 3) := by decide +kernel
theorem lk_Ho_64 : Cond.methodLink "MaypoleGreen$Homing" 64 m_Ma_abs.1 ∈ aw_T := aw_in 968 (by decide +kernel) rfl
theorem st_Ma_abs : Cond.static m_Ma_abs.1 ∈ aw_T := aw_in 969 (by decide +kernel) rfl
theorem d_Ho_fewestFrom_111 : decode m_Ho_fewestFrom.2.1 111 = .ok (.iadd, 1) := by decide +kernel
theorem d_Ho_fewestFrom_112 : decode m_Ho_fewestFrom.2.1 112 = .ok (.istore_n 3, 1) := by decide +kernel
theorem d_Ho_fewestFrom_113 : decode m_Ho_fewestFrom.2.1 113 = .ok (.iinc 5 1, 3) := by decide +kernel
theorem d_Ho_fewestFrom_116 : decode m_Ho_fewestFrom.2.1 116 = .ok (.goto (-46), 3) := by decide +kernel
theorem d_Ho_shareWalks_0 : decode m_Ho_shareWalks.2.1 0 = .ok (.iconst 0, 1) := by decide +kernel
theorem d_Ho_shareWalks_1 : decode m_Ho_shareWalks.2.1 1 = .ok (.istore_n 2, 1) := by decide +kernel
theorem d_Ho_shareWalks_2 : decode m_Ho_shareWalks.2.1 2 = .ok (.iconst 0, 1) := by decide +kernel
theorem d_Ho_shareWalks_3 : decode m_Ho_shareWalks.2.1 3 = .ok (.istore_n 3, 1) := by decide +kernel
theorem d_Ho_shareWalks_4 : decode m_Ho_shareWalks.2.1 4 = .ok (.iconst 1, 1) := by decide +kernel
theorem d_Ho_shareWalks_5 : decode m_Ho_shareWalks.2.1 5 = .ok (.istore 4, 2) := by decide +kernel
theorem d_Ho_shareWalks_7 : decode m_Ho_shareWalks.2.1 7 = .ok (.iload 4, 2) := by decide +kernel
theorem d_Ho_shareWalks_9 : decode m_Ho_shareWalks.2.1 9 = .ok (.iload_n 1, 1) := by decide +kernel
theorem d_Ho_shareWalks_10 : decode m_Ho_shareWalks.2.1 10 = .ok (.if_icmp .ge 55, 3) := by decide +kernel
theorem d_Ho_shareWalks_65 : decode m_Ho_shareWalks.2.1 65 = .ok (.aload_n 0, 1) := by decide +kernel
theorem d_Ho_shareWalks_66 : decode m_Ho_shareWalks.2.1 66 = .ok (.getfield 15, 3) := by decide +kernel
theorem d_Ho_shareWalks_69 : decode m_Ho_shareWalks.2.1 69 = .ok (.iload_n 2, 1) := by decide +kernel
theorem d_Ho_shareWalks_70 : decode m_Ho_shareWalks.2.1 70 = .ok (.iaload, 1) := by decide +kernel
theorem d_Ho_shareWalks_71 : decode m_Ho_shareWalks.2.1 71 = .ok (.aload_n 0, 1) := by decide +kernel
theorem d_Ho_shareWalks_72 : decode m_Ho_shareWalks.2.1 72 = .ok (.getfield 15, 3) := by decide +kernel
theorem d_Ho_shareWalks_75 : decode m_Ho_shareWalks.2.1 75 = .ok (.iload_n 3, 1) := by decide +kernel
theorem d_Ho_shareWalks_76 : decode m_Ho_shareWalks.2.1 76 = .ok (.iaload, 1) := by decide +kernel
theorem d_Ho_shareWalks_77 : decode m_Ho_shareWalks.2.1 77 = .ok (.isub, 1) := by decide +kernel
theorem d_Ho_shareWalks_78 : decode m_Ho_shareWalks.2.1 78 = .ok (.iload_n 1, 1) := by decide +kernel
theorem d_Ho_shareWalks_79 : decode m_Ho_shareWalks.2.1 79 = .ok (.if_icmp .gt 5, 3) := by decide +kernel
theorem d_Ho_shareWalks_84 : decode m_Ho_shareWalks.2.1 84 = .ok (.aload_n 0, 1) := by decide +kernel
theorem d_Ho_shareWalks_85 : decode m_Ho_shareWalks.2.1 85 = .ok (.getfield 15, 3) := by decide +kernel
theorem d_Ho_shareWalks_88 : decode m_Ho_shareWalks.2.1 88 = .ok (.iload_n 2, 1) := by decide +kernel
theorem d_Ho_shareWalks_89 : decode m_Ho_shareWalks.2.1 89 = .ok (.dup2, 1) := by decide +kernel
theorem d_Ho_shareWalks_90 : decode m_Ho_shareWalks.2.1 90 = .ok (.iaload, 1) := by decide +kernel
theorem d_Ho_shareWalks_91 : decode m_Ho_shareWalks.2.1 91 = .ok (.iload_n 1, 1) := by decide +kernel
theorem d_Ho_shareWalks_92 : decode m_Ho_shareWalks.2.1 92 = .ok (.isub, 1) := by decide +kernel
theorem d_Ho_shareWalks_93 : decode m_Ho_shareWalks.2.1 93 = .ok (.iastore, 1) := by decide +kernel
theorem d_Ho_shareWalks_94 : decode m_Ho_shareWalks.2.1 94 = .ok (.aload_n 0, 1) := by decide +kernel
theorem d_Ho_shareWalks_95 : decode m_Ho_shareWalks.2.1 95 = .ok (.getfield 15, 3) := by decide +kernel
theorem d_Ho_shareWalks_98 : decode m_Ho_shareWalks.2.1 98 = .ok (.iload_n 3, 1) := by decide +kernel
theorem d_Ho_shareWalks_99 : decode m_Ho_shareWalks.2.1 99 = .ok (.dup2, 1) := by decide +kernel
theorem d_Ho_shareWalks_100 : decode m_Ho_shareWalks.2.1 100 = .ok (.iaload, 1) := by decide +kernel
theorem d_Ho_shareWalks_101 : decode m_Ho_shareWalks.2.1 101 = .ok (.iload_n 1, 1) := by decide +kernel
theorem d_Ho_shareWalks_102 : decode m_Ho_shareWalks.2.1 102 = .ok (.iadd, 1) := by decide +kernel
theorem d_Ho_shareWalks_103 : decode m_Ho_shareWalks.2.1 103 = .ok (.iastore, 1) := by decide +kernel
theorem d_Ho_shareWalks_104 : decode m_Ho_shareWalks.2.1 104 = .ok (.iconst 1, 1) := by decide +kernel
theorem d_Ho_shareWalks_105 : decode m_Ho_shareWalks.2.1 105 = .ok (.ireturn, 1) := by decide +kernel
theorem d_Ho_shareWalks_82 : decode m_Ho_shareWalks.2.1 82 = .ok (.iconst 0, 1) := by decide +kernel
theorem d_Ho_shareWalks_83 : decode m_Ho_shareWalks.2.1 83 = .ok (.ireturn, 1) := by decide +kernel
theorem d_Ho_shareWalks_13 : decode m_Ho_shareWalks.2.1 13 = .ok (.aload_n 0, 1) := by decide +kernel
theorem d_Ho_shareWalks_14 : decode m_Ho_shareWalks.2.1 14 = .ok (.getfield 15, 3) := by decide +kernel
theorem d_Ho_shareWalks_17 : decode m_Ho_shareWalks.2.1 17 = .ok (.iload 4, 2) := by decide +kernel
theorem d_Ho_shareWalks_19 : decode m_Ho_shareWalks.2.1 19 = .ok (.iaload, 1) := by decide +kernel
theorem d_Ho_shareWalks_20 : decode m_Ho_shareWalks.2.1 20 = .ok (.aload_n 0, 1) := by decide +kernel
theorem d_Ho_shareWalks_21 : decode m_Ho_shareWalks.2.1 21 = .ok (.getfield 15, 3) := by decide +kernel
theorem d_Ho_shareWalks_24 : decode m_Ho_shareWalks.2.1 24 = .ok (.iload_n 2, 1) := by decide +kernel
theorem d_Ho_shareWalks_25 : decode m_Ho_shareWalks.2.1 25 = .ok (.iaload, 1) := by decide +kernel
theorem d_Ho_shareWalks_26 : decode m_Ho_shareWalks.2.1 26 = .ok (.if_icmp .le 8, 3) := by decide +kernel
theorem d_Ho_shareWalks_34 : decode m_Ho_shareWalks.2.1 34 = .ok (.iload_n 2, 1) := by decide +kernel
theorem d_Ho_shareWalks_35 : decode m_Ho_shareWalks.2.1 35 = .ok (.istore_n 2, 1) := by decide +kernel
theorem d_Ho_shareWalks_36 : decode m_Ho_shareWalks.2.1 36 = .ok (.aload_n 0, 1) := by decide +kernel
theorem d_Ho_shareWalks_37 : decode m_Ho_shareWalks.2.1 37 = .ok (.getfield 15, 3) := by decide +kernel
theorem d_Ho_shareWalks_40 : decode m_Ho_shareWalks.2.1 40 = .ok (.iload 4, 2) := by decide +kernel
theorem d_Ho_shareWalks_42 : decode m_Ho_shareWalks.2.1 42 = .ok (.iaload, 1) := by decide +kernel
theorem d_Ho_shareWalks_43 : decode m_Ho_shareWalks.2.1 43 = .ok (.aload_n 0, 1) := by decide +kernel
theorem d_Ho_shareWalks_44 : decode m_Ho_shareWalks.2.1 44 = .ok (.getfield 15, 3) := by decide +kernel
theorem d_Ho_shareWalks_47 : decode m_Ho_shareWalks.2.1 47 = .ok (.iload_n 3, 1) := by decide +kernel
theorem d_Ho_shareWalks_48 : decode m_Ho_shareWalks.2.1 48 = .ok (.iaload, 1) := by decide +kernel
theorem d_Ho_shareWalks_49 : decode m_Ho_shareWalks.2.1 49 = .ok (.if_icmp .ge 8, 3) := by decide +kernel
theorem d_Ho_shareWalks_57 : decode m_Ho_shareWalks.2.1 57 = .ok (.iload_n 3, 1) := by decide +kernel
theorem d_Ho_shareWalks_58 : decode m_Ho_shareWalks.2.1 58 = .ok (.istore_n 3, 1) := by decide +kernel
theorem d_Ho_shareWalks_59 : decode m_Ho_shareWalks.2.1 59 = .ok (.iinc 4 1, 3) := by decide +kernel
theorem d_Ho_shareWalks_62 : decode m_Ho_shareWalks.2.1 62 = .ok (.goto (-55), 3) := by decide +kernel
theorem d_Ho_shareWalks_52 : decode m_Ho_shareWalks.2.1 52 = .ok (.iload 4, 2) := by decide +kernel
theorem d_Ho_shareWalks_54 : decode m_Ho_shareWalks.2.1 54 = .ok (.goto 4, 3) := by decide +kernel
theorem d_Ho_shareWalks_29 : decode m_Ho_shareWalks.2.1 29 = .ok (.iload 4, 2) := by decide +kernel
theorem d_Ho_shareWalks_31 : decode m_Ho_shareWalks.2.1 31 = .ok (.goto 4, 3) := by decide +kernel
abbrev m_Ho_gapOnWay : aw_MI := (⟨"MaypoleGreen$Homing", "gapOnWay", "(LMaypoleGreen$Green;I)I"⟩, prog_5_method_3_code, 6, some .int)
theorem k_Ho_gapOnWay : aw_K m_Ho_gapOnWay 2 := ⟨aw_in 978 (by decide +kernel) rfl, aw_in 13 (by decide +kernel) rfl, ⟨by decide, by decide, by decide +kernel⟩, by decide, by decide +kernel⟩
theorem d_Ho_gapOnWay_0 : decode m_Ho_gapOnWay.2.1 0 = .ok (.aload_n 0, 1) := by decide +kernel
theorem d_Ho_gapOnWay_1 : decode m_Ho_gapOnWay.2.1 1 = .ok (.aload_n 1, 1) := by decide +kernel
theorem d_Ho_gapOnWay_2 : decode m_Ho_gapOnWay.2.1 2 = .ok (.invokevirtual 35, 3) := by decide +kernel
theorem lk_Ho_35 : Cond.methodLink "MaypoleGreen$Homing" 35 m_Ho_fewest.1 ∈ aw_T := aw_in 979 (by decide +kernel) rfl
theorem in_Ho_fewest : Cond.instanceMethod m_Ho_fewest.1 ∈ aw_T := aw_in 953 (by decide +kernel) rfl
theorem se_Ho_fewest : Cond.selects m_Ho_fewest.1.cls m_Ho_fewest.1 m_Ho_fewest.1 ∈ aw_T := aw_in 954 (by decide +kernel) rfl
theorem d_Ho_gapOnWay_5 : decode m_Ho_gapOnWay.2.1 5 = .ok (.istore_n 3, 1) := by decide +kernel
theorem d_Ho_gapOnWay_6 : decode m_Ho_gapOnWay.2.1 6 = .ok (.iload_n 2, 1) := by decide +kernel
theorem d_Ho_gapOnWay_7 : decode m_Ho_gapOnWay.2.1 7 = .ok (.iload_n 3, 1) := by decide +kernel
theorem d_Ho_gapOnWay_8 : decode m_Ho_gapOnWay.2.1 8 = .ok (.if_icmp .lt 5, 3) := by decide +kernel
theorem d_Ho_gapOnWay_13 : decode m_Ho_gapOnWay.2.1 13 = .ok (.iconst (-1), 1) := by decide +kernel
theorem d_Ho_gapOnWay_14 : decode m_Ho_gapOnWay.2.1 14 = .ok (.istore 4, 2) := by decide +kernel
theorem d_Ho_gapOnWay_16 : decode m_Ho_gapOnWay.2.1 16 = .ok (.iconst 0, 1) := by decide +kernel
theorem d_Ho_gapOnWay_17 : decode m_Ho_gapOnWay.2.1 17 = .ok (.istore 5, 2) := by decide +kernel
theorem d_Ho_gapOnWay_11 : decode m_Ho_gapOnWay.2.1 11 = .ok (.iconst (-1), 1) := by decide +kernel
theorem d_Ho_gapOnWay_12 : decode m_Ho_gapOnWay.2.1 12 = .ok (.ireturn, 1) := by decide +kernel
theorem d_Ho_gapOnWay_19 : decode m_Ho_gapOnWay.2.1 19 = .ok (.iload 5, 2) := by decide +kernel
theorem d_Ho_gapOnWay_21 : decode m_Ho_gapOnWay.2.1 21 = .ok (.iload_n 2, 1) := by decide +kernel
theorem d_Ho_gapOnWay_22 : decode m_Ho_gapOnWay.2.1 22 = .ok (.if_icmp .gt 20, 3) := by decide +kernel
theorem d_Ho_gapOnWay_42 : decode m_Ho_gapOnWay.2.1 42 = .ok (.iload 4, 2) := by decide +kernel
theorem d_Ho_gapOnWay_44 : decode m_Ho_gapOnWay.2.1 44 = .ok (.ireturn, 1) := by decide +kernel
theorem d_Ho_gapOnWay_25 : decode m_Ho_gapOnWay.2.1 25 = .ok (.aload_n 0, 1) := by decide +kernel
theorem d_Ho_gapOnWay_26 : decode m_Ho_gapOnWay.2.1 26 = .ok (.aload_n 1, 1) := by decide +kernel
theorem d_Ho_gapOnWay_27 : decode m_Ho_gapOnWay.2.1 27 = .ok (.iload_n 3, 1) := by decide +kernel
theorem d_Ho_gapOnWay_28 : decode m_Ho_gapOnWay.2.1 28 = .ok (.iload 5, 2) := by decide +kernel
theorem d_Ho_gapOnWay_30 : decode m_Ho_gapOnWay.2.1 30 = .ok (.isub, 1) := by decide +kernel
theorem d_Ho_gapOnWay_31 : decode m_Ho_gapOnWay.2.1 31 = .ok (.invokevirtual 39, 3) := by decide +kernel
abbrev m_Ho_firstNearer : aw_MI := (⟨"MaypoleGreen$Homing", "firstNearer", "(LMaypoleGreen$Green;I)I"⟩, prog_5_method_4_code, 5, some .int)
theorem lk_Ho_39 : Cond.methodLink "MaypoleGreen$Homing" 39 m_Ho_firstNearer.1 ∈ aw_T := aw_in 980 (by decide +kernel) rfl
theorem k_Ho_firstNearer : aw_K m_Ho_firstNearer 2 := ⟨aw_in 983 (by decide +kernel) rfl, aw_in 13 (by decide +kernel) rfl, ⟨by decide, by decide, by decide +kernel⟩, by decide, by decide +kernel⟩
theorem in_Ho_firstNearer : Cond.instanceMethod m_Ho_firstNearer.1 ∈ aw_T := aw_in 982 (by decide +kernel) rfl
theorem se_Ho_firstNearer : Cond.selects m_Ho_firstNearer.1.cls m_Ho_firstNearer.1 m_Ho_firstNearer.1 ∈ aw_T := aw_inP 35 (by decide +kernel) rfl
theorem d_Ho_gapOnWay_34 : decode m_Ho_gapOnWay.2.1 34 = .ok (.istore 4, 2) := by decide +kernel
theorem d_Ho_gapOnWay_36 : decode m_Ho_gapOnWay.2.1 36 = .ok (.iinc 5 1, 3) := by decide +kernel
theorem d_Ho_gapOnWay_39 : decode m_Ho_gapOnWay.2.1 39 = .ok (.goto (-20), 3) := by decide +kernel
theorem d_Ho_firstNearer_0 : decode m_Ho_firstNearer.2.1 0 = .ok (.aload_n 1, 1) := by decide +kernel
theorem d_Ho_firstNearer_1 : decode m_Ho_firstNearer.2.1 1 = .ok (.invokevirtual 43, 3) := by decide +kernel
theorem lk_Ho_43 : Cond.methodLink "MaypoleGreen$Homing" 43 m_Gr_gaps.1 ∈ aw_T := aw_in 984 (by decide +kernel) rfl
theorem d_Ho_firstNearer_4 : decode m_Ho_firstNearer.2.1 4 = .ok (.istore_n 3, 1) := by decide +kernel
theorem d_Ho_firstNearer_5 : decode m_Ho_firstNearer.2.1 5 = .ok (.iconst 0, 1) := by decide +kernel
theorem d_Ho_firstNearer_6 : decode m_Ho_firstNearer.2.1 6 = .ok (.istore 4, 2) := by decide +kernel
theorem d_Ho_firstNearer_8 : decode m_Ho_firstNearer.2.1 8 = .ok (.iload 4, 2) := by decide +kernel
theorem d_Ho_firstNearer_10 : decode m_Ho_firstNearer.2.1 10 = .ok (.iload_n 3, 1) := by decide +kernel
theorem d_Ho_firstNearer_11 : decode m_Ho_firstNearer.2.1 11 = .ok (.if_icmp .ge 48, 3) := by decide +kernel
theorem d_Ho_firstNearer_59 : decode m_Ho_firstNearer.2.1 59 = .ok (.iconst (-1), 1) := by decide +kernel
theorem d_Ho_firstNearer_60 : decode m_Ho_firstNearer.2.1 60 = .ok (.ireturn, 1) := by decide +kernel
theorem d_Ho_firstNearer_14 : decode m_Ho_firstNearer.2.1 14 = .ok (.aload_n 0, 1) := by decide +kernel
theorem d_Ho_firstNearer_15 : decode m_Ho_firstNearer.2.1 15 = .ok (.iload 4, 2) := by decide +kernel
theorem d_Ho_firstNearer_17 : decode m_Ho_firstNearer.2.1 17 = .ok (.aload_n 1, 1) := by decide +kernel
theorem d_Ho_firstNearer_18 : decode m_Ho_firstNearer.2.1 18 = .ok (.iload 4, 2) := by decide +kernel
theorem d_Ho_firstNearer_20 : decode m_Ho_firstNearer.2.1 20 = .ok (.invokevirtual 47, 3) := by decide +kernel
theorem lk_Ho_47 : Cond.methodLink "MaypoleGreen$Homing" 47 m_Gr_nextPlace.1 ∈ aw_T := aw_in 985 (by decide +kernel) rfl
theorem d_Ho_firstNearer_23 : decode m_Ho_firstNearer.2.1 23 = .ok (.invokevirtual 50, 3) := by decide +kernel
abbrev m_Ho_exchange : aw_MI := (⟨"MaypoleGreen$Homing", "exchange", "(II)V"⟩, prog_5_method_5_code, 4, none)
theorem lk_Ho_50 : Cond.methodLink "MaypoleGreen$Homing" 50 m_Ho_exchange.1 ∈ aw_T := aw_in 986 (by decide +kernel) rfl
theorem k_Ho_exchange : aw_K m_Ho_exchange 2 := ⟨aw_in 989 (by decide +kernel) rfl, aw_in 13 (by decide +kernel) rfl, ⟨by decide, by decide, by decide +kernel⟩, by decide, by decide +kernel⟩
theorem in_Ho_exchange : Cond.instanceMethod m_Ho_exchange.1 ∈ aw_T := aw_in 988 (by decide +kernel) rfl
theorem se_Ho_exchange : Cond.selects m_Ho_exchange.1.cls m_Ho_exchange.1 m_Ho_exchange.1 ∈ aw_T := aw_inP 36 (by decide +kernel) rfl
theorem d_Ho_firstNearer_26 : decode m_Ho_firstNearer.2.1 26 = .ok (.aload_n 0, 1) := by decide +kernel
theorem d_Ho_firstNearer_27 : decode m_Ho_firstNearer.2.1 27 = .ok (.aload_n 1, 1) := by decide +kernel
theorem d_Ho_firstNearer_28 : decode m_Ho_firstNearer.2.1 28 = .ok (.getfield 27, 3) := by decide +kernel
theorem d_Ho_firstNearer_31 : decode m_Ho_firstNearer.2.1 31 = .ok (.invokevirtual 31, 3) := by decide +kernel
theorem d_Ho_firstNearer_34 : decode m_Ho_firstNearer.2.1 34 = .ok (.iload_n 2, 1) := by decide +kernel
theorem d_Ho_firstNearer_35 : decode m_Ho_firstNearer.2.1 35 = .ok (.if_icmp .ge 6, 3) := by decide +kernel
theorem d_Ho_firstNearer_41 : decode m_Ho_firstNearer.2.1 41 = .ok (.aload_n 0, 1) := by decide +kernel
theorem d_Ho_firstNearer_42 : decode m_Ho_firstNearer.2.1 42 = .ok (.iload 4, 2) := by decide +kernel
theorem d_Ho_firstNearer_44 : decode m_Ho_firstNearer.2.1 44 = .ok (.aload_n 1, 1) := by decide +kernel
theorem d_Ho_firstNearer_45 : decode m_Ho_firstNearer.2.1 45 = .ok (.iload 4, 2) := by decide +kernel
theorem d_Ho_firstNearer_47 : decode m_Ho_firstNearer.2.1 47 = .ok (.invokevirtual 47, 3) := by decide +kernel
theorem d_Ho_firstNearer_50 : decode m_Ho_firstNearer.2.1 50 = .ok (.invokevirtual 50, 3) := by decide +kernel
theorem d_Ho_firstNearer_53 : decode m_Ho_firstNearer.2.1 53 = .ok (.iinc 4 1, 3) := by decide +kernel
theorem d_Ho_firstNearer_56 : decode m_Ho_firstNearer.2.1 56 = .ok (.goto (-48), 3) := by decide +kernel
theorem d_Ho_firstNearer_38 : decode m_Ho_firstNearer.2.1 38 = .ok (.iload 4, 2) := by decide +kernel
theorem d_Ho_firstNearer_40 : decode m_Ho_firstNearer.2.1 40 = .ok (.ireturn, 1) := by decide +kernel
theorem d_Ho_exchange_0 : decode m_Ho_exchange.2.1 0 = .ok (.aload_n 0, 1) := by decide +kernel
theorem d_Ho_exchange_1 : decode m_Ho_exchange.2.1 1 = .ok (.getfield 9, 3) := by decide +kernel
theorem d_Ho_exchange_4 : decode m_Ho_exchange.2.1 4 = .ok (.iload_n 1, 1) := by decide +kernel
theorem d_Ho_exchange_5 : decode m_Ho_exchange.2.1 5 = .ok (.iaload, 1) := by decide +kernel
theorem d_Ho_exchange_6 : decode m_Ho_exchange.2.1 6 = .ok (.istore_n 3, 1) := by decide +kernel
theorem d_Ho_exchange_7 : decode m_Ho_exchange.2.1 7 = .ok (.aload_n 0, 1) := by decide +kernel
theorem d_Ho_exchange_8 : decode m_Ho_exchange.2.1 8 = .ok (.getfield 9, 3) := by decide +kernel
theorem d_Ho_exchange_11 : decode m_Ho_exchange.2.1 11 = .ok (.iload_n 1, 1) := by decide +kernel
theorem d_Ho_exchange_12 : decode m_Ho_exchange.2.1 12 = .ok (.aload_n 0, 1) := by decide +kernel
theorem d_Ho_exchange_13 : decode m_Ho_exchange.2.1 13 = .ok (.getfield 9, 3) := by decide +kernel
theorem d_Ho_exchange_16 : decode m_Ho_exchange.2.1 16 = .ok (.iload_n 2, 1) := by decide +kernel
theorem d_Ho_exchange_17 : decode m_Ho_exchange.2.1 17 = .ok (.iaload, 1) := by decide +kernel
theorem d_Ho_exchange_18 : decode m_Ho_exchange.2.1 18 = .ok (.iastore, 1) := by decide +kernel
theorem d_Ho_exchange_19 : decode m_Ho_exchange.2.1 19 = .ok (.aload_n 0, 1) := by decide +kernel
theorem d_Ho_exchange_20 : decode m_Ho_exchange.2.1 20 = .ok (.getfield 9, 3) := by decide +kernel
theorem d_Ho_exchange_23 : decode m_Ho_exchange.2.1 23 = .ok (.iload_n 2, 1) := by decide +kernel
theorem d_Ho_exchange_24 : decode m_Ho_exchange.2.1 24 = .ok (.iload_n 3, 1) := by decide +kernel
theorem d_Ho_exchange_25 : decode m_Ho_exchange.2.1 25 = .ok (.iastore, 1) := by decide +kernel
theorem d_Ho_exchange_26 : decode m_Ho_exchange.2.1 26 = .ok (.return_, 1) := by decide +kernel
