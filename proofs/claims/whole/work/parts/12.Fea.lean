abbrev m_Fe_clear : aw_MI := (⟨"MaypoleGreen$Feasts", "clear", "()V"⟩, prog_3_method_2_code, 1, none)
theorem k_Fe_clear : aw_K m_Fe_clear 0 := ⟨aw_in 576 (by decide +kernel) rfl, aw_in 5 (by decide +kernel) rfl, ⟨by decide, by decide, by decide +kernel⟩, by decide, by decide +kernel⟩
theorem d_Fe_clear_0 : decode m_Fe_clear.2.1 0 = .ok (.aload_n 0, 1) := by decide +kernel
theorem d_Fe_clear_1 : decode m_Fe_clear.2.1 1 = .ok (.iconst 0, 1) := by decide +kernel
theorem d_Fe_clear_2 : decode m_Fe_clear.2.1 2 = .ok (.putfield 27, 3) := by decide +kernel
theorem f_Fe_27 : aw_F "MaypoleGreen$Feasts" 27 4 0 false := ⟨cR4, cT4, 7, fun k => cY4.getD k .int, rfl, ci4, cy4, cn4, rfl, by decide, aw_in 87 (by decide +kernel) rfl, rfl, rfl, rfl⟩
theorem d_Fe_clear_5 : decode m_Fe_clear.2.1 5 = .ok (.aload_n 0, 1) := by decide +kernel
theorem d_Fe_clear_6 : decode m_Fe_clear.2.1 6 = .ok (.iconst 0, 1) := by decide +kernel
theorem d_Fe_clear_7 : decode m_Fe_clear.2.1 7 = .ok (.putfield 31, 3) := by decide +kernel
theorem f_Fe_31 : aw_F "MaypoleGreen$Feasts" 31 4 1 false := ⟨cR4, cT4, 7, fun k => cY4.getD k .int, rfl, ci4, cy4, cn4, rfl, by decide, aw_in 90 (by decide +kernel) rfl, rfl, rfl, rfl⟩
theorem d_Fe_clear_10 : decode m_Fe_clear.2.1 10 = .ok (.return_, 1) := by decide +kernel
abbrev m_Fe_copyFrom : aw_MI := (⟨"MaypoleGreen$Feasts", "copyFrom", "(LMaypoleGreen$Feasts;)V"⟩, prog_3_method_3_code, 2, none)
theorem k_Fe_copyFrom : aw_K m_Fe_copyFrom 1 := ⟨aw_in 781 (by decide +kernel) rfl, aw_in 5 (by decide +kernel) rfl, ⟨by decide, by decide, by decide +kernel⟩, by decide, by decide +kernel⟩
theorem d_Fe_copyFrom_0 : decode m_Fe_copyFrom.2.1 0 = .ok (.aload_n 0, 1) := by decide +kernel
theorem d_Fe_copyFrom_1 : decode m_Fe_copyFrom.2.1 1 = .ok (.aload_n 1, 1) := by decide +kernel
theorem d_Fe_copyFrom_2 : decode m_Fe_copyFrom.2.1 2 = .ok (.getfield 27, 3) := by decide +kernel
theorem d_Fe_copyFrom_5 : decode m_Fe_copyFrom.2.1 5 = .ok (.putfield 27, 3) := by decide +kernel
theorem d_Fe_copyFrom_8 : decode m_Fe_copyFrom.2.1 8 = .ok (.aload_n 0, 1) := by decide +kernel
theorem d_Fe_copyFrom_9 : decode m_Fe_copyFrom.2.1 9 = .ok (.aload_n 1, 1) := by decide +kernel
theorem d_Fe_copyFrom_10 : decode m_Fe_copyFrom.2.1 10 = .ok (.getfield 31, 3) := by decide +kernel
theorem d_Fe_copyFrom_13 : decode m_Fe_copyFrom.2.1 13 = .ok (.putfield 31, 3) := by decide +kernel
theorem d_Fe_copyFrom_16 : decode m_Fe_copyFrom.2.1 16 = .ok (.aload_n 1, 1) := by decide +kernel
theorem d_Fe_copyFrom_17 : decode m_Fe_copyFrom.2.1 17 = .ok (.getfield 9, 3) := by decide +kernel
theorem f_Fe_9 : aw_F "MaypoleGreen$Feasts" 9 4 2 true := ⟨cR4, cT4, 7, fun k => cY4.getD k .int, rfl, ci4, cy4, cn4, rfl, by decide, aw_in 93 (by decide +kernel) rfl, rfl, rfl, rfl⟩
theorem d_Fe_copyFrom_20 : decode m_Fe_copyFrom.2.1 20 = .ok (.iconst 0, 1) := by decide +kernel
theorem d_Fe_copyFrom_21 : decode m_Fe_copyFrom.2.1 21 = .ok (.aload_n 0, 1) := by decide +kernel
theorem d_Fe_copyFrom_22 : decode m_Fe_copyFrom.2.1 22 = .ok (.getfield 9, 3) := by decide +kernel
theorem d_Fe_copyFrom_25 : decode m_Fe_copyFrom.2.1 25 = .ok (.iconst 0, 1) := by decide +kernel
theorem d_Fe_copyFrom_26 : decode m_Fe_copyFrom.2.1 26 = .ok (.aload_n 0, 1) := by decide +kernel
theorem d_Fe_copyFrom_27 : decode m_Fe_copyFrom.2.1 27 = .ok (.getfield 31, 3) := by decide +kernel
theorem d_Fe_copyFrom_30 : decode m_Fe_copyFrom.2.1 30 = .ok (.invokestatic 35, 3) := by decide +kernel
theorem ck_Fe_35 : Cond.methodLink "MaypoleGreen$Feasts" 35 arraycopyName ∈ aw_T := aw_in 782 (by decide +kernel) rfl
theorem d_Fe_copyFrom_33 : decode m_Fe_copyFrom.2.1 33 = .ok (.aload_n 1, 1) := by decide +kernel
theorem d_Fe_copyFrom_34 : decode m_Fe_copyFrom.2.1 34 = .ok (.getfield 15, 3) := by decide +kernel
theorem f_Fe_15 : aw_F "MaypoleGreen$Feasts" 15 4 3 true := ⟨cR4, cT4, 7, fun k => cY4.getD k .int, rfl, ci4, cy4, cn4, rfl, by decide, aw_in 96 (by decide +kernel) rfl, rfl, rfl, rfl⟩
theorem d_Fe_copyFrom_37 : decode m_Fe_copyFrom.2.1 37 = .ok (.iconst 0, 1) := by decide +kernel
theorem d_Fe_copyFrom_38 : decode m_Fe_copyFrom.2.1 38 = .ok (.aload_n 0, 1) := by decide +kernel
theorem d_Fe_copyFrom_39 : decode m_Fe_copyFrom.2.1 39 = .ok (.getfield 15, 3) := by decide +kernel
theorem d_Fe_copyFrom_42 : decode m_Fe_copyFrom.2.1 42 = .ok (.iconst 0, 1) := by decide +kernel
theorem d_Fe_copyFrom_43 : decode m_Fe_copyFrom.2.1 43 = .ok (.aload_n 0, 1) := by decide +kernel
theorem d_Fe_copyFrom_44 : decode m_Fe_copyFrom.2.1 44 = .ok (.getfield 31, 3) := by decide +kernel
theorem d_Fe_copyFrom_47 : decode m_Fe_copyFrom.2.1 47 = .ok (.invokestatic 35, 3) := by decide +kernel
theorem d_Fe_copyFrom_50 : decode m_Fe_copyFrom.2.1 50 = .ok (.aload_n 1, 1) := by decide +kernel
theorem d_Fe_copyFrom_51 : decode m_Fe_copyFrom.2.1 51 = .ok (.getfield 18, 3) := by decide +kernel
theorem f_Fe_18 : aw_F "MaypoleGreen$Feasts" 18 4 4 true := ⟨cR4, cT4, 7, fun k => cY4.getD k .int, rfl, ci4, cy4, cn4, rfl, by decide, aw_in 99 (by decide +kernel) rfl, rfl, rfl, rfl⟩
theorem d_Fe_copyFrom_54 : decode m_Fe_copyFrom.2.1 54 = .ok (.iconst 0, 1) := by decide +kernel
theorem d_Fe_copyFrom_55 : decode m_Fe_copyFrom.2.1 55 = .ok (.aload_n 0, 1) := by decide +kernel
theorem d_Fe_copyFrom_56 : decode m_Fe_copyFrom.2.1 56 = .ok (.getfield 18, 3) := by decide +kernel
theorem d_Fe_copyFrom_59 : decode m_Fe_copyFrom.2.1 59 = .ok (.iconst 0, 1) := by decide +kernel
theorem d_Fe_copyFrom_60 : decode m_Fe_copyFrom.2.1 60 = .ok (.aload_n 0, 1) := by decide +kernel
theorem d_Fe_copyFrom_61 : decode m_Fe_copyFrom.2.1 61 = .ok (.getfield 31, 3) := by decide +kernel
theorem d_Fe_copyFrom_64 : decode m_Fe_copyFrom.2.1 64 = .ok (.invokestatic 35, 3) := by decide +kernel
theorem d_Fe_copyFrom_67 : decode m_Fe_copyFrom.2.1 67 = .ok (.aload_n 1, 1) := by decide +kernel
theorem d_Fe_copyFrom_68 : decode m_Fe_copyFrom.2.1 68 = .ok (.getfield 21, 3) := by decide +kernel
theorem f_Fe_21 : aw_F "MaypoleGreen$Feasts" 21 4 5 true := ⟨cR4, cT4, 7, fun k => cY4.getD k .int, rfl, ci4, cy4, cn4, rfl, by decide, aw_in 102 (by decide +kernel) rfl, rfl, rfl, rfl⟩
theorem d_Fe_copyFrom_71 : decode m_Fe_copyFrom.2.1 71 = .ok (.iconst 0, 1) := by decide +kernel
theorem d_Fe_copyFrom_72 : decode m_Fe_copyFrom.2.1 72 = .ok (.aload_n 0, 1) := by decide +kernel
theorem d_Fe_copyFrom_73 : decode m_Fe_copyFrom.2.1 73 = .ok (.getfield 21, 3) := by decide +kernel
theorem d_Fe_copyFrom_76 : decode m_Fe_copyFrom.2.1 76 = .ok (.iconst 0, 1) := by decide +kernel
theorem d_Fe_copyFrom_77 : decode m_Fe_copyFrom.2.1 77 = .ok (.aload_n 0, 1) := by decide +kernel
theorem d_Fe_copyFrom_78 : decode m_Fe_copyFrom.2.1 78 = .ok (.getfield 31, 3) := by decide +kernel
theorem d_Fe_copyFrom_81 : decode m_Fe_copyFrom.2.1 81 = .ok (.invokestatic 35, 3) := by decide +kernel
theorem d_Fe_copyFrom_84 : decode m_Fe_copyFrom.2.1 84 = .ok (.aload_n 1, 1) := by decide +kernel
theorem d_Fe_copyFrom_85 : decode m_Fe_copyFrom.2.1 85 = .ok (.getfield 24, 3) := by decide +kernel
theorem f_Fe_24 : aw_F "MaypoleGreen$Feasts" 24 4 6 true := ⟨cR4, cT4, 7, fun k => cY4.getD k .int, rfl, ci4, cy4, cn4, rfl, by decide, aw_in 105 (by decide +kernel) rfl, rfl, rfl, rfl⟩
theorem d_Fe_copyFrom_88 : decode m_Fe_copyFrom.2.1 88 = .ok (.iconst 0, 1) := by decide +kernel
theorem d_Fe_copyFrom_89 : decode m_Fe_copyFrom.2.1 89 = .ok (.aload_n 0, 1) := by decide +kernel
theorem d_Fe_copyFrom_90 : decode m_Fe_copyFrom.2.1 90 = .ok (.getfield 24, 3) := by decide +kernel
theorem d_Fe_copyFrom_93 : decode m_Fe_copyFrom.2.1 93 = .ok (.iconst 0, 1) := by decide +kernel
theorem d_Fe_copyFrom_94 : decode m_Fe_copyFrom.2.1 94 = .ok (.aload_n 0, 1) := by decide +kernel
theorem d_Fe_copyFrom_95 : decode m_Fe_copyFrom.2.1 95 = .ok (.getfield 31, 3) := by decide +kernel
theorem d_Fe_copyFrom_98 : decode m_Fe_copyFrom.2.1 98 = .ok (.invokestatic 35, 3) := by decide +kernel
theorem d_Fe_copyFrom_101 : decode m_Fe_copyFrom.2.1 101 = .ok (.return_, 1) := by decide +kernel
