theorem d_Md_holdsOf_0 : decode m_Md_holdsOf.2.1 0 = .ok (.iconst 0, 1) := by decide +kernel
theorem d_Md_holdsOf_1 : decode m_Md_holdsOf.2.1 1 = .ok (.istore_n 2, 1) := by decide +kernel
theorem d_Md_holdsOf_2 : decode m_Md_holdsOf.2.1 2 = .ok (.iload_n 2, 1) := by decide +kernel
theorem d_Md_holdsOf_3 : decode m_Md_holdsOf.2.1 3 = .ok (.bipush 40, 2) := by decide +kernel
theorem d_Md_holdsOf_5 : decode m_Md_holdsOf.2.1 5 = .ok (.if_icmp .ge 25, 3) := by decide +kernel
theorem d_Md_holdsOf_30 : decode m_Md_holdsOf.2.1 30 = .ok (.aload_n 0, 1) := by decide +kernel
theorem d_Md_holdsOf_31 : decode m_Md_holdsOf.2.1 31 = .ok (.invokevirtual 343, 3) := by decide +kernel
abbrev m_Md_laysHeld : aw_MI := (⟨"MaypoleGreenModel", "laysHeld", "()I"⟩, prog_14_method_66_code, 4, some .int)
theorem lk_Md_343 : Cond.methodLink "MaypoleGreenModel" 343 m_Md_laysHeld.1 ∈ aw_T := aw_in 1686 (by decide +kernel) rfl
theorem k_Md_laysHeld : aw_K m_Md_laysHeld 0 := ⟨aw_in 1689 (by decide +kernel) rfl, aw_in 16 (by decide +kernel) rfl, ⟨by decide, by decide, by decide +kernel⟩, by decide, by decide +kernel⟩
theorem in_Md_laysHeld : Cond.instanceMethod m_Md_laysHeld.1 ∈ aw_T := aw_in 1688 (by decide +kernel) rfl
theorem se_Md_laysHeld : Cond.selects m_Md_laysHeld.1.cls m_Md_laysHeld.1 m_Md_laysHeld.1 ∈ aw_T := aw_inP 103 (by decide +kernel) rfl
theorem d_Md_holdsOf_34 : decode m_Md_holdsOf.2.1 34 = .ok (.ireturn, 1) := by decide +kernel
theorem d_Md_holdsOf_8 : decode m_Md_holdsOf.2.1 8 = .ok (.aload_n 0, 1) := by decide +kernel
theorem d_Md_holdsOf_9 : decode m_Md_holdsOf.2.1 9 = .ok (.getfield 50, 3) := by decide +kernel
theorem f_Md_50 : aw_F "MaypoleGreenModel" 50 11 25 true := ⟨cR11, cT11, 52, fun k => cY11.getD k .int, rfl, ci11, cy11, cn11, rfl, by decide, aw_in 1280 (by decide +kernel) rfl, rfl, rfl, rfl⟩
theorem d_Md_holdsOf_12 : decode m_Md_holdsOf.2.1 12 = .ok (.iload_n 2, 1) := by decide +kernel
theorem d_Md_holdsOf_13 : decode m_Md_holdsOf.2.1 13 = .ok (.iload_n 2, 1) := by decide +kernel
theorem d_Md_holdsOf_14 : decode m_Md_holdsOf.2.1 14 = .ok (.iload_n 1, 1) := by decide +kernel
theorem d_Md_holdsOf_15 : decode m_Md_holdsOf.2.1 15 = .ok (.if_icmp .ne 7, 3) := by decide +kernel
theorem d_Md_holdsOf_22 : decode m_Md_holdsOf.2.1 22 = .ok (.iconst 0, 1) := by decide +kernel
theorem d_Md_holdsOf_23 : decode m_Md_holdsOf.2.1 23 = .ok (.bastore, 1) := by decide +kernel
theorem d_Md_holdsOf_24 : decode m_Md_holdsOf.2.1 24 = .ok (.iinc 2 1, 3) := by decide +kernel
theorem d_Md_holdsOf_27 : decode m_Md_holdsOf.2.1 27 = .ok (.goto (-25), 3) := by decide +kernel
theorem d_Md_holdsOf_18 : decode m_Md_holdsOf.2.1 18 = .ok (.iconst 1, 1) := by decide +kernel
theorem d_Md_holdsOf_19 : decode m_Md_holdsOf.2.1 19 = .ok (.goto 4, 3) := by decide +kernel
theorem d_Md_laysHeld_0 : decode m_Md_laysHeld.2.1 0 = .ok (.iconst 0, 1) := by decide +kernel
theorem d_Md_laysHeld_1 : decode m_Md_laysHeld.2.1 1 = .ok (.istore_n 1, 1) := by decide +kernel
theorem d_Md_laysHeld_2 : decode m_Md_laysHeld.2.1 2 = .ok (.iconst 0, 1) := by decide +kernel
theorem d_Md_laysHeld_3 : decode m_Md_laysHeld.2.1 3 = .ok (.istore_n 2, 1) := by decide +kernel
theorem d_Md_laysHeld_4 : decode m_Md_laysHeld.2.1 4 = .ok (.iload_n 2, 1) := by decide +kernel
theorem d_Md_laysHeld_5 : decode m_Md_laysHeld.2.1 5 = .ok (.aload_n 0, 1) := by decide +kernel
theorem d_Md_laysHeld_6 : decode m_Md_laysHeld.2.1 6 = .ok (.getfield 7, 3) := by decide +kernel
theorem d_Md_laysHeld_9 : decode m_Md_laysHeld.2.1 9 = .ok (.iconst 3, 1) := by decide +kernel
theorem d_Md_laysHeld_10 : decode m_Md_laysHeld.2.1 10 = .ok (.iaload, 1) := by decide +kernel
theorem d_Md_laysHeld_11 : decode m_Md_laysHeld.2.1 11 = .ok (.if_icmp .ge 88, 3) := by decide +kernel
theorem d_Md_laysHeld_99 : decode m_Md_laysHeld.2.1 99 = .ok (.iload_n 1, 1) := by decide +kernel
theorem d_Md_laysHeld_100 : decode m_Md_laysHeld.2.1 100 = .ok (.ireturn, 1) := by decide +kernel
theorem d_Md_laysHeld_14 : decode m_Md_laysHeld.2.1 14 = .ok (.iconst 0, 1) := by decide +kernel
theorem d_Md_laysHeld_15 : decode m_Md_laysHeld.2.1 15 = .ok (.istore_n 3, 1) := by decide +kernel
theorem d_Md_laysHeld_16 : decode m_Md_laysHeld.2.1 16 = .ok (.iload_n 3, 1) := by decide +kernel
theorem d_Md_laysHeld_17 : decode m_Md_laysHeld.2.1 17 = .ok (.iload_n 2, 1) := by decide +kernel
theorem d_Md_laysHeld_18 : decode m_Md_laysHeld.2.1 18 = .ok (.if_icmp .ge 58, 3) := by decide +kernel
theorem d_Md_laysHeld_76 : decode m_Md_laysHeld.2.1 76 = .ok (.iload_n 1, 1) := by decide +kernel
theorem d_Md_laysHeld_77 : decode m_Md_laysHeld.2.1 77 = .ok (.aload_n 0, 1) := by decide +kernel
theorem d_Md_laysHeld_78 : decode m_Md_laysHeld.2.1 78 = .ok (.getfield 50, 3) := by decide +kernel
theorem d_Md_laysHeld_81 : decode m_Md_laysHeld.2.1 81 = .ok (.iload_n 2, 1) := by decide +kernel
theorem d_Md_laysHeld_82 : decode m_Md_laysHeld.2.1 82 = .ok (.baload, 1) := by decide +kernel
theorem d_Md_laysHeld_83 : decode m_Md_laysHeld.2.1 83 = .ok (.ifCond .eq 7, 3) := by decide +kernel
theorem d_Md_laysHeld_90 : decode m_Md_laysHeld.2.1 90 = .ok (.iconst 0, 1) := by decide +kernel
theorem d_Md_laysHeld_91 : decode m_Md_laysHeld.2.1 91 = .ok (.iadd, 1) := by decide +kernel
theorem d_Md_laysHeld_92 : decode m_Md_laysHeld.2.1 92 = .ok (.istore_n 1, 1) := by decide +kernel
theorem d_Md_laysHeld_93 : decode m_Md_laysHeld.2.1 93 = .ok (.iinc 2 1, 3) := by decide +kernel
theorem d_Md_laysHeld_96 : decode m_Md_laysHeld.2.1 96 = .ok (.goto (-92), 3) := by decide +kernel
theorem d_Md_laysHeld_86 : decode m_Md_laysHeld.2.1 86 = .ok (.iconst 1, 1) := by decide +kernel
theorem d_Md_laysHeld_87 : decode m_Md_laysHeld.2.1 87 = .ok (.goto 4, 3) := by decide +kernel
theorem d_Md_laysHeld_21 : decode m_Md_laysHeld.2.1 21 = .ok (.aload_n 0, 1) := by decide +kernel
theorem d_Md_laysHeld_22 : decode m_Md_laysHeld.2.1 22 = .ok (.getfield 50, 3) := by decide +kernel
theorem d_Md_laysHeld_25 : decode m_Md_laysHeld.2.1 25 = .ok (.iload_n 2, 1) := by decide +kernel
theorem d_Md_laysHeld_26 : decode m_Md_laysHeld.2.1 26 = .ok (.baload, 1) := by decide +kernel
theorem d_Md_laysHeld_27 : decode m_Md_laysHeld.2.1 27 = .ok (.ifCond .ne 49, 3) := by decide +kernel
theorem d_Md_laysHeld_30 : decode m_Md_laysHeld.2.1 30 = .ok (.aload_n 0, 1) := by decide +kernel
theorem d_Md_laysHeld_31 : decode m_Md_laysHeld.2.1 31 = .ok (.getfield 50, 3) := by decide +kernel
theorem d_Md_laysHeld_34 : decode m_Md_laysHeld.2.1 34 = .ok (.iload_n 2, 1) := by decide +kernel
theorem d_Md_laysHeld_35 : decode m_Md_laysHeld.2.1 35 = .ok (.aload_n 0, 1) := by decide +kernel
theorem d_Md_laysHeld_36 : decode m_Md_laysHeld.2.1 36 = .ok (.getfield 50, 3) := by decide +kernel
theorem d_Md_laysHeld_39 : decode m_Md_laysHeld.2.1 39 = .ok (.iload_n 3, 1) := by decide +kernel
theorem d_Md_laysHeld_40 : decode m_Md_laysHeld.2.1 40 = .ok (.baload, 1) := by decide +kernel
theorem d_Md_laysHeld_41 : decode m_Md_laysHeld.2.1 41 = .ok (.ifCond .eq 27, 3) := by decide +kernel
theorem d_Md_laysHeld_68 : decode m_Md_laysHeld.2.1 68 = .ok (.iconst 0, 1) := by decide +kernel
theorem d_Md_laysHeld_69 : decode m_Md_laysHeld.2.1 69 = .ok (.bastore, 1) := by decide +kernel
theorem d_Md_laysHeld_70 : decode m_Md_laysHeld.2.1 70 = .ok (.iinc 3 1, 3) := by decide +kernel
theorem d_Md_laysHeld_73 : decode m_Md_laysHeld.2.1 73 = .ok (.goto (-57), 3) := by decide +kernel
theorem d_Md_laysHeld_44 : decode m_Md_laysHeld.2.1 44 = .ok (.aload_n 0, 1) := by decide +kernel
theorem d_Md_laysHeld_45 : decode m_Md_laysHeld.2.1 45 = .ok (.iconst 0, 1) := by decide +kernel
theorem d_Md_laysHeld_46 : decode m_Md_laysHeld.2.1 46 = .ok (.aload_n 0, 1) := by decide +kernel
theorem d_Md_laysHeld_47 : decode m_Md_laysHeld.2.1 47 = .ok (.iload_n 3, 1) := by decide +kernel
theorem d_Md_laysHeld_48 : decode m_Md_laysHeld.2.1 48 = .ok (.iconst 0, 1) := by decide +kernel
theorem d_Md_laysHeld_49 : decode m_Md_laysHeld.2.1 49 = .ok (.invokevirtual 316, 3) := by decide +kernel
theorem d_Md_laysHeld_52 : decode m_Md_laysHeld.2.1 52 = .ok (.aload_n 0, 1) := by decide +kernel
theorem d_Md_laysHeld_53 : decode m_Md_laysHeld.2.1 53 = .ok (.iload_n 2, 1) := by decide +kernel
theorem d_Md_laysHeld_54 : decode m_Md_laysHeld.2.1 54 = .ok (.iconst 0, 1) := by decide +kernel
theorem d_Md_laysHeld_55 : decode m_Md_laysHeld.2.1 55 = .ok (.invokevirtual 316, 3) := by decide +kernel
theorem d_Md_laysHeld_58 : decode m_Md_laysHeld.2.1 58 = .ok (.invokevirtual 217, 3) := by decide +kernel
theorem d_Md_laysHeld_61 : decode m_Md_laysHeld.2.1 61 = .ok (.ifCond .eq 7, 3) := by decide +kernel
theorem d_Md_laysHeld_64 : decode m_Md_laysHeld.2.1 64 = .ok (.iconst 1, 1) := by decide +kernel
theorem d_Md_laysHeld_65 : decode m_Md_laysHeld.2.1 65 = .ok (.goto 4, 3) := by decide +kernel
abbrev m_Md_shows : aw_MI := (⟨"MaypoleGreenModel", "shows", "(I)I"⟩, prog_14_method_77_code, 2, some .int)
theorem k_Md_shows : aw_K m_Md_shows 1 := ⟨aw_in 1693 (by decide +kernel) rfl, aw_in 16 (by decide +kernel) rfl, ⟨by decide, by decide, by decide +kernel⟩, by decide, by decide +kernel⟩
theorem d_Md_shows_0 : decode m_Md_shows.2.1 0 = .ok (.aload_n 0, 1) := by decide +kernel
theorem d_Md_shows_1 : decode m_Md_shows.2.1 1 = .ok (.iload_n 1, 1) := by decide +kernel
theorem d_Md_shows_2 : decode m_Md_shows.2.1 2 = .ok (.invokevirtual 349, 3) := by decide +kernel
abbrev m_Md_isGap : aw_MI := (⟨"MaypoleGreenModel", "isGap", "(I)Z"⟩, prog_14_method_61_code, 2, some .boolean)
theorem lk_Md_349 : Cond.methodLink "MaypoleGreenModel" 349 m_Md_isGap.1 ∈ aw_T := aw_in 1694 (by decide +kernel) rfl
theorem k_Md_isGap : aw_K m_Md_isGap 1 := ⟨aw_in 1697 (by decide +kernel) rfl, aw_in 16 (by decide +kernel) rfl, ⟨by decide, by decide, by decide +kernel⟩, by decide, by decide +kernel⟩
theorem in_Md_isGap : Cond.instanceMethod m_Md_isGap.1 ∈ aw_T := aw_in 1696 (by decide +kernel) rfl
theorem se_Md_isGap : Cond.selects m_Md_isGap.1.cls m_Md_isGap.1 m_Md_isGap.1 ∈ aw_T := aw_inP 104 (by decide +kernel) rfl
theorem d_Md_shows_5 : decode m_Md_shows.2.1 5 = .ok (.ifCond .ne 9, 3) := by decide +kernel
theorem d_Md_shows_14 : decode m_Md_shows.2.1 14 = .ok (.aload_n 0, 1) := by decide +kernel
theorem d_Md_shows_15 : decode m_Md_shows.2.1 15 = .ok (.iload_n 1, 1) := by decide +kernel
theorem d_Md_shows_16 : decode m_Md_shows.2.1 16 = .ok (.invokevirtual 319, 3) := by decide +kernel
theorem d_Md_shows_19 : decode m_Md_shows.2.1 19 = .ok (.bipush 6, 2) := by decide +kernel
theorem d_Md_shows_21 : decode m_Md_shows.2.1 21 = .ok (.if_icmp .ne 12, 3) := by decide +kernel
theorem d_Md_shows_33 : decode m_Md_shows.2.1 33 = .ok (.aload_n 0, 1) := by decide +kernel
theorem d_Md_shows_34 : decode m_Md_shows.2.1 34 = .ok (.aload_n 0, 1) := by decide +kernel
theorem d_Md_shows_35 : decode m_Md_shows.2.1 35 = .ok (.iload_n 1, 1) := by decide +kernel
theorem d_Md_shows_36 : decode m_Md_shows.2.1 36 = .ok (.invokevirtual 319, 3) := by decide +kernel
theorem d_Md_shows_39 : decode m_Md_shows.2.1 39 = .ok (.invokevirtual 122, 3) := by decide +kernel
theorem d_Md_shows_42 : decode m_Md_shows.2.1 42 = .ok (.ireturn, 1) := by decide +kernel
theorem d_Md_shows_24 : decode m_Md_shows.2.1 24 = .ok (.aload_n 0, 1) := by decide +kernel
theorem d_Md_shows_25 : decode m_Md_shows.2.1 25 = .ok (.bipush 6, 2) := by decide +kernel
theorem d_Md_shows_27 : decode m_Md_shows.2.1 27 = .ok (.invokevirtual 118, 3) := by decide +kernel
theorem d_Md_shows_30 : decode m_Md_shows.2.1 30 = .ok (.goto 12, 3) := by decide +kernel
theorem d_Md_shows_8 : decode m_Md_shows.2.1 8 = .ok (.aload_n 0, 1) := by decide +kernel
theorem d_Md_shows_9 : decode m_Md_shows.2.1 9 = .ok (.iconst 1, 1) := by decide +kernel
theorem d_Md_shows_10 : decode m_Md_shows.2.1 10 = .ok (.invokevirtual 118, 3) := by decide +kernel
theorem d_Md_shows_13 : decode m_Md_shows.2.1 13 = .ok (.ireturn, 1) := by decide +kernel
theorem d_Md_isGap_0 : decode m_Md_isGap.2.1 0 = .ok (.iload_n 1, 1) := by decide +kernel
theorem d_Md_isGap_1 : decode m_Md_isGap.2.1 1 = .ok (.ifCond .lt 16, 3) := by decide +kernel
theorem d_Md_isGap_17 : decode m_Md_isGap.2.1 17 = .ok (.iconst 0, 1) := by decide +kernel
theorem d_Md_isGap_18 : decode m_Md_isGap.2.1 18 = .ok (.ireturn, 1) := by decide +kernel
theorem d_Md_isGap_4 : decode m_Md_isGap.2.1 4 = .ok (.iload_n 1, 1) := by decide +kernel
theorem d_Md_isGap_5 : decode m_Md_isGap.2.1 5 = .ok (.aload_n 0, 1) := by decide +kernel
theorem d_Md_isGap_6 : decode m_Md_isGap.2.1 6 = .ok (.iconst 0, 1) := by decide +kernel
theorem d_Md_isGap_7 : decode m_Md_isGap.2.1 7 = .ok (.invokevirtual 260, 3) := by decide +kernel
theorem d_Md_isGap_10 : decode m_Md_isGap.2.1 10 = .ok (.if_icmp .ge 7, 3) := by decide +kernel
theorem d_Md_isGap_13 : decode m_Md_isGap.2.1 13 = .ok (.iconst 1, 1) := by decide +kernel
theorem d_Md_isGap_14 : decode m_Md_isGap.2.1 14 = .ok (.goto 4, 3) := by decide +kernel
abbrev m_Md_passes : aw_MI := (⟨"MaypoleGreenModel", "passes", "(I)I"⟩, prog_14_method_78_code, 4, some .int)
theorem k_Md_passes : aw_K m_Md_passes 1 := ⟨aw_in 1701 (by decide +kernel) rfl, aw_in 16 (by decide +kernel) rfl, ⟨by decide, by decide, by decide +kernel⟩, by decide, by decide +kernel⟩
theorem d_Md_passes_0 : decode m_Md_passes.2.1 0 = .ok (.aload_n 0, 1) := by decide +kernel
theorem d_Md_passes_1 : decode m_Md_passes.2.1 1 = .ok (.iload_n 1, 1) := by decide +kernel
theorem d_Md_passes_2 : decode m_Md_passes.2.1 2 = .ok (.invokevirtual 349, 3) := by decide +kernel
theorem d_Md_passes_5 : decode m_Md_passes.2.1 5 = .ok (.ifCond .ne 9, 3) := by decide +kernel
theorem d_Md_passes_14 : decode m_Md_passes.2.1 14 = .ok (.iconst 0, 1) := by decide +kernel
theorem d_Md_passes_15 : decode m_Md_passes.2.1 15 = .ok (.istore_n 2, 1) := by decide +kernel
theorem d_Md_passes_16 : decode m_Md_passes.2.1 16 = .ok (.iconst 0, 1) := by decide +kernel
theorem d_Md_passes_17 : decode m_Md_passes.2.1 17 = .ok (.istore_n 3, 1) := by decide +kernel
theorem d_Md_passes_8 : decode m_Md_passes.2.1 8 = .ok (.aload_n 0, 1) := by decide +kernel
theorem d_Md_passes_9 : decode m_Md_passes.2.1 9 = .ok (.iconst 1, 1) := by decide +kernel
theorem d_Md_passes_10 : decode m_Md_passes.2.1 10 = .ok (.invokevirtual 118, 3) := by decide +kernel
theorem d_Md_passes_13 : decode m_Md_passes.2.1 13 = .ok (.ireturn, 1) := by decide +kernel
theorem d_Md_passes_18 : decode m_Md_passes.2.1 18 = .ok (.iload_n 3, 1) := by decide +kernel
theorem d_Md_passes_19 : decode m_Md_passes.2.1 19 = .ok (.aload_n 0, 1) := by decide +kernel
theorem d_Md_passes_20 : decode m_Md_passes.2.1 20 = .ok (.getfield 7, 3) := by decide +kernel
theorem d_Md_passes_23 : decode m_Md_passes.2.1 23 = .ok (.iconst 3, 1) := by decide +kernel
theorem d_Md_passes_24 : decode m_Md_passes.2.1 24 = .ok (.iaload, 1) := by decide +kernel
theorem d_Md_passes_25 : decode m_Md_passes.2.1 25 = .ok (.if_icmp .ge 27, 3) := by decide +kernel
theorem d_Md_passes_52 : decode m_Md_passes.2.1 52 = .ok (.aload_n 0, 1) := by decide +kernel
theorem d_Md_passes_53 : decode m_Md_passes.2.1 53 = .ok (.iload_n 2, 1) := by decide +kernel
theorem d_Md_passes_54 : decode m_Md_passes.2.1 54 = .ok (.invokevirtual 122, 3) := by decide +kernel
theorem d_Md_passes_57 : decode m_Md_passes.2.1 57 = .ok (.ireturn, 1) := by decide +kernel
theorem d_Md_passes_28 : decode m_Md_passes.2.1 28 = .ok (.iload_n 2, 1) := by decide +kernel
theorem d_Md_passes_29 : decode m_Md_passes.2.1 29 = .ok (.aload_n 0, 1) := by decide +kernel
theorem d_Md_passes_30 : decode m_Md_passes.2.1 30 = .ok (.iload_n 3, 1) := by decide +kernel
theorem d_Md_passes_31 : decode m_Md_passes.2.1 31 = .ok (.iconst 0, 1) := by decide +kernel
theorem d_Md_passes_32 : decode m_Md_passes.2.1 32 = .ok (.invokevirtual 316, 3) := by decide +kernel
theorem d_Md_passes_35 : decode m_Md_passes.2.1 35 = .ok (.iload_n 1, 1) := by decide +kernel
theorem d_Md_passes_36 : decode m_Md_passes.2.1 36 = .ok (.if_icmp .ne 7, 3) := by decide +kernel
theorem d_Md_passes_43 : decode m_Md_passes.2.1 43 = .ok (.iconst 0, 1) := by decide +kernel
theorem d_Md_passes_44 : decode m_Md_passes.2.1 44 = .ok (.iadd, 1) := by decide +kernel
theorem d_Md_passes_45 : decode m_Md_passes.2.1 45 = .ok (.istore_n 2, 1) := by decide +kernel
theorem d_Md_passes_46 : decode m_Md_passes.2.1 46 = .ok (.iinc 3 1, 3) := by decide +kernel
theorem d_Md_passes_49 : decode m_Md_passes.2.1 49 = .ok (.goto (-31), 3) := by decide +kernel
theorem d_Md_passes_39 : decode m_Md_passes.2.1 39 = .ok (.iconst 1, 1) := by decide +kernel
theorem d_Md_passes_40 : decode m_Md_passes.2.1 40 = .ok (.goto 4, 3) := by decide +kernel
abbrev m_Md_pass : aw_MI := (⟨"MaypoleGreenModel", "pass", "(IZ)I"⟩, prog_14_method_80_code, 3, some .int)
theorem k_Md_pass : aw_K m_Md_pass 2 := ⟨aw_in 1705 (by decide +kernel) rfl, aw_in 16 (by decide +kernel) rfl, ⟨by decide, by decide, by decide +kernel⟩, by decide, by decide +kernel⟩
theorem d_Md_pass_0 : decode m_Md_pass.2.1 0 = .ok (.aload_n 0, 1) := by decide +kernel
theorem d_Md_pass_1 : decode m_Md_pass.2.1 1 = .ok (.iload_n 1, 1) := by decide +kernel
theorem d_Md_pass_2 : decode m_Md_pass.2.1 2 = .ok (.invokevirtual 349, 3) := by decide +kernel
theorem d_Md_pass_5 : decode m_Md_pass.2.1 5 = .ok (.ifCond .ne 9, 3) := by decide +kernel
theorem d_Md_pass_14 : decode m_Md_pass.2.1 14 = .ok (.aload_n 0, 1) := by decide +kernel
theorem d_Md_pass_15 : decode m_Md_pass.2.1 15 = .ok (.iload_n 1, 1) := by decide +kernel
theorem d_Md_pass_16 : decode m_Md_pass.2.1 16 = .ok (.iload_n 2, 1) := by decide +kernel
theorem d_Md_pass_17 : decode m_Md_pass.2.1 17 = .ok (.ifCond .eq 7, 3) := by decide +kernel
theorem d_Md_pass_24 : decode m_Md_pass.2.1 24 = .ok (.iconst 0, 1) := by decide +kernel
theorem d_Md_pass_25 : decode m_Md_pass.2.1 25 = .ok (.invokevirtual 352, 3) := by decide +kernel
abbrev m_Md_danced : aw_MI := (⟨"MaypoleGreenModel", "danced", "(II)I"⟩, prog_14_method_79_code, 4, some .int)
theorem lk_Md_352 : Cond.methodLink "MaypoleGreenModel" 352 m_Md_danced.1 ∈ aw_T := aw_in 1706 (by decide +kernel) rfl
theorem k_Md_danced : aw_K m_Md_danced 2 := ⟨aw_in 1709 (by decide +kernel) rfl, aw_in 16 (by decide +kernel) rfl, ⟨by decide, by decide, by decide +kernel⟩, by decide, by decide +kernel⟩
theorem in_Md_danced : Cond.instanceMethod m_Md_danced.1 ∈ aw_T := aw_in 1708 (by decide +kernel) rfl
theorem se_Md_danced : Cond.selects m_Md_danced.1.cls m_Md_danced.1 m_Md_danced.1 ∈ aw_T := aw_inP 105 (by decide +kernel) rfl
theorem d_Md_pass_28 : decode m_Md_pass.2.1 28 = .ok (.ifCond .ne 12, 3) := by decide +kernel
theorem d_Md_pass_40 : decode m_Md_pass.2.1 40 = .ok (.aload_n 0, 1) := by decide +kernel
theorem d_Md_pass_41 : decode m_Md_pass.2.1 41 = .ok (.aload_n 0, 1) := by decide +kernel
theorem d_Md_pass_42 : decode m_Md_pass.2.1 42 = .ok (.getfield 7, 3) := by decide +kernel
theorem d_Md_pass_45 : decode m_Md_pass.2.1 45 = .ok (.iconst 3, 1) := by decide +kernel
theorem d_Md_pass_46 : decode m_Md_pass.2.1 46 = .ok (.iaload, 1) := by decide +kernel
theorem d_Md_pass_47 : decode m_Md_pass.2.1 47 = .ok (.invokevirtual 122, 3) := by decide +kernel
theorem d_Md_pass_50 : decode m_Md_pass.2.1 50 = .ok (.ireturn, 1) := by decide +kernel
theorem d_Md_pass_31 : decode m_Md_pass.2.1 31 = .ok (.aload_n 0, 1) := by decide +kernel
theorem d_Md_pass_32 : decode m_Md_pass.2.1 32 = .ok (.bipush 7, 2) := by decide +kernel
theorem d_Md_pass_34 : decode m_Md_pass.2.1 34 = .ok (.invokevirtual 118, 3) := by decide +kernel
theorem d_Md_pass_37 : decode m_Md_pass.2.1 37 = .ok (.goto 13, 3) := by decide +kernel
theorem d_Md_pass_20 : decode m_Md_pass.2.1 20 = .ok (.iconst 1, 1) := by decide +kernel
theorem d_Md_pass_21 : decode m_Md_pass.2.1 21 = .ok (.goto 4, 3) := by decide +kernel
theorem d_Md_pass_8 : decode m_Md_pass.2.1 8 = .ok (.aload_n 0, 1) := by decide +kernel
theorem d_Md_pass_9 : decode m_Md_pass.2.1 9 = .ok (.iconst 1, 1) := by decide +kernel
theorem d_Md_pass_10 : decode m_Md_pass.2.1 10 = .ok (.invokevirtual 118, 3) := by decide +kernel
theorem d_Md_pass_13 : decode m_Md_pass.2.1 13 = .ok (.ireturn, 1) := by decide +kernel
theorem d_Md_danced_0 : decode m_Md_danced.2.1 0 = .ok (.aload_n 0, 1) := by decide +kernel
theorem d_Md_danced_1 : decode m_Md_danced.2.1 1 = .ok (.iconst 0, 1) := by decide +kernel
theorem d_Md_danced_2 : decode m_Md_danced.2.1 2 = .ok (.iload_n 1, 1) := by decide +kernel
theorem d_Md_danced_3 : decode m_Md_danced.2.1 3 = .ok (.iload_n 2, 1) := by decide +kernel
theorem d_Md_danced_4 : decode m_Md_danced.2.1 4 = .ok (.invokevirtual 269, 3) := by decide +kernel
theorem d_Md_danced_7 : decode m_Md_danced.2.1 7 = .ok (.istore_n 3, 1) := by decide +kernel
theorem d_Md_danced_8 : decode m_Md_danced.2.1 8 = .ok (.iload_n 3, 1) := by decide +kernel
theorem d_Md_danced_9 : decode m_Md_danced.2.1 9 = .ok (.ifCond .le 13, 3) := by decide +kernel
theorem d_Md_danced_22 : decode m_Md_danced.2.1 22 = .ok (.iload_n 3, 1) := by decide +kernel
theorem d_Md_danced_23 : decode m_Md_danced.2.1 23 = .ok (.ireturn, 1) := by decide +kernel
theorem d_Md_danced_12 : decode m_Md_danced.2.1 12 = .ok (.aload_n 0, 1) := by decide +kernel
theorem d_Md_danced_13 : decode m_Md_danced.2.1 13 = .ok (.getfield 7, 3) := by decide +kernel
theorem d_Md_danced_16 : decode m_Md_danced.2.1 16 = .ok (.iconst 4, 1) := by decide +kernel
theorem d_Md_danced_17 : decode m_Md_danced.2.1 17 = .ok (.dup2, 1) := by decide +kernel
theorem d_Md_danced_18 : decode m_Md_danced.2.1 18 = .ok (.iaload, 1) := by decide +kernel
theorem d_Md_danced_19 : decode m_Md_danced.2.1 19 = .ok (.iconst 1, 1) := by decide +kernel
theorem d_Md_danced_20 : decode m_Md_danced.2.1 20 = .ok (.iadd, 1) := by decide +kernel
theorem d_Md_danced_21 : decode m_Md_danced.2.1 21 = .ok (.iastore, 1) := by decide +kernel
abbrev m_Md_back : aw_MI := (⟨"MaypoleGreenModel", "back", "()I"⟩, prog_14_method_82_code, 1, some .int)
theorem k_Md_back : aw_K m_Md_back 0 := ⟨aw_in 1713 (by decide +kernel) rfl, aw_in 16 (by decide +kernel) rfl, ⟨by decide, by decide, by decide +kernel⟩, by decide, by decide +kernel⟩
theorem d_Md_back_0 : decode m_Md_back.2.1 0 = .ok (.aload_n 0, 1) := by decide +kernel
theorem d_Md_back_1 : decode m_Md_back.2.1 1 = .ok (.invokevirtual 355, 3) := by decide +kernel
abbrev m_Md_undoes : aw_MI := (⟨"MaypoleGreenModel", "undoes", "()Z"⟩, prog_14_method_81_code, 2, some .boolean)
theorem lk_Md_355 : Cond.methodLink "MaypoleGreenModel" 355 m_Md_undoes.1 ∈ aw_T := aw_in 1714 (by decide +kernel) rfl
theorem k_Md_undoes : aw_K m_Md_undoes 0 := ⟨aw_in 1717 (by decide +kernel) rfl, aw_in 16 (by decide +kernel) rfl, ⟨by decide, by decide, by decide +kernel⟩, by decide, by decide +kernel⟩
theorem in_Md_undoes : Cond.instanceMethod m_Md_undoes.1 ∈ aw_T := aw_in 1716 (by decide +kernel) rfl
theorem se_Md_undoes : Cond.selects m_Md_undoes.1.cls m_Md_undoes.1 m_Md_undoes.1 ∈ aw_T := aw_inP 106 (by decide +kernel) rfl
theorem d_Md_back_4 : decode m_Md_back.2.1 4 = .ok (.ifCond .eq 16, 3) := by decide +kernel
theorem d_Md_back_20 : decode m_Md_back.2.1 20 = .ok (.aload_n 0, 1) := by decide +kernel
theorem d_Md_back_21 : decode m_Md_back.2.1 21 = .ok (.bipush 7, 2) := by decide +kernel
theorem d_Md_back_23 : decode m_Md_back.2.1 23 = .ok (.invokevirtual 118, 3) := by decide +kernel
theorem d_Md_back_26 : decode m_Md_back.2.1 26 = .ok (.ireturn, 1) := by decide +kernel
theorem d_Md_back_7 : decode m_Md_back.2.1 7 = .ok (.aload_n 0, 1) := by decide +kernel
theorem d_Md_back_8 : decode m_Md_back.2.1 8 = .ok (.aload_n 0, 1) := by decide +kernel
theorem d_Md_back_9 : decode m_Md_back.2.1 9 = .ok (.getfield 7, 3) := by decide +kernel
theorem d_Md_back_12 : decode m_Md_back.2.1 12 = .ok (.iconst 3, 1) := by decide +kernel
theorem d_Md_back_13 : decode m_Md_back.2.1 13 = .ok (.iaload, 1) := by decide +kernel
theorem d_Md_back_14 : decode m_Md_back.2.1 14 = .ok (.invokevirtual 122, 3) := by decide +kernel
theorem d_Md_back_17 : decode m_Md_back.2.1 17 = .ok (.goto 9, 3) := by decide +kernel
theorem d_Md_undoes_0 : decode m_Md_undoes.2.1 0 = .ok (.aload_n 0, 1) := by decide +kernel
theorem d_Md_undoes_1 : decode m_Md_undoes.2.1 1 = .ok (.getfield 7, 3) := by decide +kernel
theorem d_Md_undoes_4 : decode m_Md_undoes.2.1 4 = .ok (.iconst 3, 1) := by decide +kernel
theorem d_Md_undoes_5 : decode m_Md_undoes.2.1 5 = .ok (.iaload, 1) := by decide +kernel
theorem d_Md_undoes_6 : decode m_Md_undoes.2.1 6 = .ok (.iconst 1, 1) := by decide +kernel
theorem d_Md_undoes_7 : decode m_Md_undoes.2.1 7 = .ok (.isub, 1) := by decide +kernel
theorem d_Md_undoes_8 : decode m_Md_undoes.2.1 8 = .ok (.istore_n 1, 1) := by decide +kernel
theorem d_Md_undoes_9 : decode m_Md_undoes.2.1 9 = .ok (.iload_n 1, 1) := by decide +kernel
theorem d_Md_undoes_10 : decode m_Md_undoes.2.1 10 = .ok (.ifCond .ge 5, 3) := by decide +kernel
theorem d_Md_undoes_15 : decode m_Md_undoes.2.1 15 = .ok (.aload_n 0, 1) := by decide +kernel
theorem d_Md_undoes_16 : decode m_Md_undoes.2.1 16 = .ok (.iconst 0, 1) := by decide +kernel
theorem d_Md_undoes_17 : decode m_Md_undoes.2.1 17 = .ok (.aload_n 0, 1) := by decide +kernel
theorem d_Md_undoes_18 : decode m_Md_undoes.2.1 18 = .ok (.iload_n 1, 1) := by decide +kernel
theorem d_Md_undoes_19 : decode m_Md_undoes.2.1 19 = .ok (.iconst 0, 1) := by decide +kernel
theorem d_Md_undoes_20 : decode m_Md_undoes.2.1 20 = .ok (.invokevirtual 316, 3) := by decide +kernel
theorem d_Md_undoes_23 : decode m_Md_undoes.2.1 23 = .ok (.invokevirtual 228, 3) := by decide +kernel
theorem d_Md_undoes_26 : decode m_Md_undoes.2.1 26 = .ok (.aload_n 0, 1) := by decide +kernel
theorem d_Md_undoes_27 : decode m_Md_undoes.2.1 27 = .ok (.iconst 0, 1) := by decide +kernel
theorem d_Md_undoes_28 : decode m_Md_undoes.2.1 28 = .ok (.iload_n 1, 1) := by decide +kernel
theorem d_Md_undoes_29 : decode m_Md_undoes.2.1 29 = .ok (.invokevirtual 232, 3) := by decide +kernel
theorem d_Md_undoes_32 : decode m_Md_undoes.2.1 32 = .ok (.aload_n 0, 1) := by decide +kernel
theorem d_Md_undoes_33 : decode m_Md_undoes.2.1 33 = .ok (.getfield 7, 3) := by decide +kernel
theorem d_Md_undoes_36 : decode m_Md_undoes.2.1 36 = .ok (.iconst 4, 1) := by decide +kernel
theorem d_Md_undoes_37 : decode m_Md_undoes.2.1 37 = .ok (.dup2, 1) := by decide +kernel
theorem d_Md_undoes_38 : decode m_Md_undoes.2.1 38 = .ok (.iaload, 1) := by decide +kernel
theorem d_Md_undoes_39 : decode m_Md_undoes.2.1 39 = .ok (.iconst 1, 1) := by decide +kernel
theorem d_Md_undoes_40 : decode m_Md_undoes.2.1 40 = .ok (.iadd, 1) := by decide +kernel
theorem d_Md_undoes_41 : decode m_Md_undoes.2.1 41 = .ok (.iastore, 1) := by decide +kernel
theorem d_Md_undoes_42 : decode m_Md_undoes.2.1 42 = .ok (.iconst 1, 1) := by decide +kernel
theorem d_Md_undoes_43 : decode m_Md_undoes.2.1 43 = .ok (.ireturn, 1) := by decide +kernel
theorem d_Md_undoes_13 : decode m_Md_undoes.2.1 13 = .ok (.iconst 0, 1) := by decide +kernel
theorem d_Md_undoes_14 : decode m_Md_undoes.2.1 14 = .ok (.ireturn, 1) := by decide +kernel
abbrev m_Md_weave : aw_MI := (⟨"MaypoleGreenModel", "weave", "()I"⟩, prog_14_method_85_code, 2, some .int)
theorem k_Md_weave : aw_K m_Md_weave 0 := ⟨aw_in 1721 (by decide +kernel) rfl, aw_in 16 (by decide +kernel) rfl, ⟨by decide, by decide, by decide +kernel⟩, by decide, by decide +kernel⟩
theorem d_Md_weave_0 : decode m_Md_weave.2.1 0 = .ok (.aload_n 0, 1) := by decide +kernel
theorem d_Md_weave_1 : decode m_Md_weave.2.1 1 = .ok (.invokevirtual 367, 3) := by decide +kernel
abbrev m_Md_weaving : aw_MI := (⟨"MaypoleGreenModel", "weaving", "()I"⟩, prog_14_method_84_code, 4, some .int)
theorem lk_Md_367 : Cond.methodLink "MaypoleGreenModel" 367 m_Md_weaving.1 ∈ aw_T := aw_in 1722 (by decide +kernel) rfl
theorem k_Md_weaving : aw_K m_Md_weaving 0 := ⟨aw_in 1725 (by decide +kernel) rfl, aw_in 16 (by decide +kernel) rfl, ⟨by decide, by decide, by decide +kernel⟩, by decide, by decide +kernel⟩
theorem in_Md_weaving : Cond.instanceMethod m_Md_weaving.1 ∈ aw_T := aw_in 1724 (by decide +kernel) rfl
theorem se_Md_weaving : Cond.selects m_Md_weaving.1.cls m_Md_weaving.1 m_Md_weaving.1 ∈ aw_T := aw_inP 107 (by decide +kernel) rfl
theorem d_Md_weave_4 : decode m_Md_weave.2.1 4 = .ok (.istore_n 1, 1) := by decide +kernel
theorem d_Md_weave_5 : decode m_Md_weave.2.1 5 = .ok (.iload_n 1, 1) := by decide +kernel
theorem d_Md_weave_6 : decode m_Md_weave.2.1 6 = .ok (.ifCond .ne 12, 3) := by decide +kernel
theorem d_Md_weave_18 : decode m_Md_weave.2.1 18 = .ok (.aload_n 0, 1) := by decide +kernel
theorem d_Md_weave_19 : decode m_Md_weave.2.1 19 = .ok (.iload_n 1, 1) := by decide +kernel
theorem d_Md_weave_20 : decode m_Md_weave.2.1 20 = .ok (.invokevirtual 122, 3) := by decide +kernel
theorem d_Md_weave_23 : decode m_Md_weave.2.1 23 = .ok (.ireturn, 1) := by decide +kernel
theorem d_Md_weave_9 : decode m_Md_weave.2.1 9 = .ok (.aload_n 0, 1) := by decide +kernel
theorem d_Md_weave_10 : decode m_Md_weave.2.1 10 = .ok (.bipush 7, 2) := by decide +kernel
theorem d_Md_weave_12 : decode m_Md_weave.2.1 12 = .ok (.invokevirtual 118, 3) := by decide +kernel
theorem d_Md_weave_15 : decode m_Md_weave.2.1 15 = .ok (.goto 8, 3) := by decide +kernel
theorem d_Md_weaving_0 : decode m_Md_weaving.2.1 0 = .ok (.aload_n 0, 1) := by decide +kernel
theorem d_Md_weaving_1 : decode m_Md_weaving.2.1 1 = .ok (.iconst 0, 1) := by decide +kernel
theorem d_Md_weaving_2 : decode m_Md_weaving.2.1 2 = .ok (.invokevirtual 260, 3) := by decide +kernel
theorem d_Md_weaving_5 : decode m_Md_weaving.2.1 5 = .ok (.istore_n 1, 1) := by decide +kernel
theorem d_Md_weaving_6 : decode m_Md_weaving.2.1 6 = .ok (.aload_n 0, 1) := by decide +kernel
theorem d_Md_weaving_7 : decode m_Md_weaving.2.1 7 = .ok (.iconst 0, 1) := by decide +kernel
theorem d_Md_weaving_8 : decode m_Md_weaving.2.1 8 = .ok (.putfield 358, 3) := by decide +kernel
theorem f_Md_358 : aw_F "MaypoleGreenModel" 358 11 26 false := ⟨cR11, cT11, 52, fun k => cY11.getD k .int, rfl, ci11, cy11, cn11, rfl, by decide, aw_in 1281 (by decide +kernel) rfl, rfl, rfl, rfl⟩
theorem d_Md_weaving_11 : decode m_Md_weaving.2.1 11 = .ok (.aload_n 0, 1) := by decide +kernel
theorem d_Md_weaving_12 : decode m_Md_weaving.2.1 12 = .ok (.iconst 0, 1) := by decide +kernel
theorem d_Md_weaving_13 : decode m_Md_weaving.2.1 13 = .ok (.putfield 361, 3) := by decide +kernel
theorem f_Md_361 : aw_F "MaypoleGreenModel" 361 11 27 false := ⟨cR11, cT11, 52, fun k => cY11.getD k .int, rfl, ci11, cy11, cn11, rfl, by decide, aw_in 1282 (by decide +kernel) rfl, rfl, rfl, rfl⟩
theorem d_Md_weaving_16 : decode m_Md_weaving.2.1 16 = .ok (.iconst 0, 1) := by decide +kernel
theorem d_Md_weaving_17 : decode m_Md_weaving.2.1 17 = .ok (.istore_n 2, 1) := by decide +kernel
theorem d_Md_weaving_18 : decode m_Md_weaving.2.1 18 = .ok (.iload_n 2, 1) := by decide +kernel
theorem d_Md_weaving_19 : decode m_Md_weaving.2.1 19 = .ok (.iload_n 1, 1) := by decide +kernel
theorem d_Md_weaving_20 : decode m_Md_weaving.2.1 20 = .ok (.if_icmp .ge 46, 3) := by decide +kernel
theorem d_Md_weaving_66 : decode m_Md_weaving.2.1 66 = .ok (.iconst 1, 1) := by decide +kernel
theorem d_Md_weaving_67 : decode m_Md_weaving.2.1 67 = .ok (.istore_n 2, 1) := by decide +kernel
theorem d_Md_weaving_23 : decode m_Md_weaving.2.1 23 = .ok (.iload_n 2, 1) := by decide +kernel
theorem d_Md_weaving_24 : decode m_Md_weaving.2.1 24 = .ok (.ifCond .le 24, 3) := by decide +kernel
theorem d_Md_weaving_48 : decode m_Md_weaving.2.1 48 = .ok (.iconst 0, 1) := by decide +kernel
theorem d_Md_weaving_49 : decode m_Md_weaving.2.1 49 = .ok (.istore_n 3, 1) := by decide +kernel
theorem d_Md_weaving_50 : decode m_Md_weaving.2.1 50 = .ok (.iload_n 3, 1) := by decide +kernel
theorem d_Md_weaving_51 : decode m_Md_weaving.2.1 51 = .ok (.ifCond .ne 9, 3) := by decide +kernel
theorem d_Md_weaving_54 : decode m_Md_weaving.2.1 54 = .ok (.aload_n 0, 1) := by decide +kernel
theorem d_Md_weaving_55 : decode m_Md_weaving.2.1 55 = .ok (.iload_n 2, 1) := by decide +kernel
theorem d_Md_weaving_56 : decode m_Md_weaving.2.1 56 = .ok (.iconst 1, 1) := by decide +kernel
theorem d_Md_weaving_57 : decode m_Md_weaving.2.1 57 = .ok (.invokevirtual 364, 3) := by decide +kernel
abbrev m_Md_weaves1 : aw_MI := (⟨"MaypoleGreenModel", "weaves1", "(II)V"⟩, prog_14_method_83_code, 4, none)
theorem lk_Md_364 : Cond.methodLink "MaypoleGreenModel" 364 m_Md_weaves1.1 ∈ aw_T := aw_in 1726 (by decide +kernel) rfl
theorem k_Md_weaves1 : aw_K m_Md_weaves1 2 := ⟨aw_in 1729 (by decide +kernel) rfl, aw_in 16 (by decide +kernel) rfl, ⟨by decide, by decide, by decide +kernel⟩, by decide, by decide +kernel⟩
theorem in_Md_weaves1 : Cond.instanceMethod m_Md_weaves1.1 ∈ aw_T := aw_in 1728 (by decide +kernel) rfl
theorem se_Md_weaves1 : Cond.selects m_Md_weaves1.1.cls m_Md_weaves1.1 m_Md_weaves1.1 ∈ aw_T := aw_inP 108 (by decide +kernel) rfl
theorem d_Md_weaving_60 : decode m_Md_weaving.2.1 60 = .ok (.iinc 2 2, 3) := by decide +kernel
theorem d_Md_weaving_63 : decode m_Md_weaving.2.1 63 = .ok (.goto (-45), 3) := by decide +kernel
theorem d_Md_weaving_27 : decode m_Md_weaving.2.1 27 = .ok (.iload_n 2, 1) := by decide +kernel
theorem d_Md_weaving_28 : decode m_Md_weaving.2.1 28 = .ok (.iconst 2, 1) := by decide +kernel
theorem d_Md_weaving_29 : decode m_Md_weaving.2.1 29 = .ok (.iadd, 1) := by decide +kernel
theorem d_Md_weaving_30 : decode m_Md_weaving.2.1 30 = .ok (.iload_n 1, 1) := by decide +kernel
theorem d_Md_weaving_31 : decode m_Md_weaving.2.1 31 = .ok (.if_icmp .lt 17, 3) := by decide +kernel
theorem d_Md_weaving_34 : decode m_Md_weaving.2.1 34 = .ok (.aload_n 0, 1) := by decide +kernel
theorem d_Md_weaving_35 : decode m_Md_weaving.2.1 35 = .ok (.iconst 0, 1) := by decide +kernel
theorem d_Md_weaving_36 : decode m_Md_weaving.2.1 36 = .ok (.iload_n 2, 1) := by decide +kernel
theorem d_Md_weaving_37 : decode m_Md_weaving.2.1 37 = .ok (.iconst 0, 1) := by decide +kernel
theorem d_Md_weaving_38 : decode m_Md_weaving.2.1 38 = .ok (.invokevirtual 217, 3) := by decide +kernel
theorem d_Md_weaving_41 : decode m_Md_weaving.2.1 41 = .ok (.ifCond .eq 7, 3) := by decide +kernel
theorem d_Md_weaving_44 : decode m_Md_weaving.2.1 44 = .ok (.iconst 1, 1) := by decide +kernel
theorem d_Md_weaving_45 : decode m_Md_weaving.2.1 45 = .ok (.goto 4, 3) := by decide +kernel
theorem d_Md_weaving_68 : decode m_Md_weaving.2.1 68 = .ok (.iload_n 2, 1) := by decide +kernel
theorem d_Md_weaving_69 : decode m_Md_weaving.2.1 69 = .ok (.iload_n 1, 1) := by decide +kernel
theorem d_Md_weaving_70 : decode m_Md_weaving.2.1 70 = .ok (.if_icmp .ge 15, 3) := by decide +kernel
theorem d_Md_weaving_85 : decode m_Md_weaving.2.1 85 = .ok (.aload_n 0, 1) := by decide +kernel
theorem d_Md_weaving_86 : decode m_Md_weaving.2.1 86 = .ok (.getfield 358, 3) := by decide +kernel
theorem d_Md_weaving_89 : decode m_Md_weaving.2.1 89 = .ok (.aload_n 0, 1) := by decide +kernel
theorem d_Md_weaving_90 : decode m_Md_weaving.2.1 90 = .ok (.getfield 361, 3) := by decide +kernel
theorem d_Md_weaving_93 : decode m_Md_weaving.2.1 93 = .ok (.iadd, 1) := by decide +kernel
theorem d_Md_weaving_94 : decode m_Md_weaving.2.1 94 = .ok (.ireturn, 1) := by decide +kernel
theorem d_Md_weaving_73 : decode m_Md_weaving.2.1 73 = .ok (.aload_n 0, 1) := by decide +kernel
theorem d_Md_weaving_74 : decode m_Md_weaving.2.1 74 = .ok (.iload_n 2, 1) := by decide +kernel
theorem d_Md_weaving_75 : decode m_Md_weaving.2.1 75 = .ok (.iconst 0, 1) := by decide +kernel
theorem d_Md_weaving_76 : decode m_Md_weaving.2.1 76 = .ok (.invokevirtual 364, 3) := by decide +kernel
theorem d_Md_weaving_79 : decode m_Md_weaving.2.1 79 = .ok (.iinc 2 2, 3) := by decide +kernel
theorem d_Md_weaving_82 : decode m_Md_weaving.2.1 82 = .ok (.goto (-14), 3) := by decide +kernel
theorem d_Md_weaves1_0 : decode m_Md_weaves1.2.1 0 = .ok (.aload_n 0, 1) := by decide +kernel
theorem d_Md_weaves1_1 : decode m_Md_weaves1.2.1 1 = .ok (.iload_n 1, 1) := by decide +kernel
theorem d_Md_weaves1_2 : decode m_Md_weaves1.2.1 2 = .ok (.iload_n 2, 1) := by decide +kernel
theorem d_Md_weaves1_3 : decode m_Md_weaves1.2.1 3 = .ok (.invokevirtual 352, 3) := by decide +kernel
theorem d_Md_weaves1_6 : decode m_Md_weaves1.2.1 6 = .ok (.istore_n 3, 1) := by decide +kernel
theorem d_Md_weaves1_7 : decode m_Md_weaves1.2.1 7 = .ok (.aload_n 0, 1) := by decide +kernel
theorem d_Md_weaves1_8 : decode m_Md_weaves1.2.1 8 = .ok (.dup, 1) := by decide +kernel
theorem d_Md_weaves1_9 : decode m_Md_weaves1.2.1 9 = .ok (.getfield 358, 3) := by decide +kernel
theorem d_Md_weaves1_12 : decode m_Md_weaves1.2.1 12 = .ok (.iload_n 3, 1) := by decide +kernel
theorem d_Md_weaves1_13 : decode m_Md_weaves1.2.1 13 = .ok (.iconst 1, 1) := by decide +kernel
theorem d_Md_weaves1_14 : decode m_Md_weaves1.2.1 14 = .ok (.if_icmp .ne 7, 3) := by decide +kernel
theorem d_Md_weaves1_21 : decode m_Md_weaves1.2.1 21 = .ok (.iconst 0, 1) := by decide +kernel
theorem d_Md_weaves1_22 : decode m_Md_weaves1.2.1 22 = .ok (.iadd, 1) := by decide +kernel
theorem d_Md_weaves1_23 : decode m_Md_weaves1.2.1 23 = .ok (.putfield 358, 3) := by decide +kernel
theorem d_Md_weaves1_26 : decode m_Md_weaves1.2.1 26 = .ok (.aload_n 0, 1) := by decide +kernel
theorem d_Md_weaves1_27 : decode m_Md_weaves1.2.1 27 = .ok (.dup, 1) := by decide +kernel
theorem d_Md_weaves1_28 : decode m_Md_weaves1.2.1 28 = .ok (.getfield 361, 3) := by decide +kernel
theorem d_Md_weaves1_31 : decode m_Md_weaves1.2.1 31 = .ok (.iload_n 3, 1) := by decide +kernel
theorem d_Md_weaves1_32 : decode m_Md_weaves1.2.1 32 = .ok (.iconst 2, 1) := by decide +kernel
theorem d_Md_weaves1_33 : decode m_Md_weaves1.2.1 33 = .ok (.if_icmp .ne 7, 3) := by decide +kernel
theorem d_Md_weaves1_40 : decode m_Md_weaves1.2.1 40 = .ok (.iconst 0, 1) := by decide +kernel
theorem d_Md_weaves1_41 : decode m_Md_weaves1.2.1 41 = .ok (.iadd, 1) := by decide +kernel
theorem d_Md_weaves1_42 : decode m_Md_weaves1.2.1 42 = .ok (.putfield 361, 3) := by decide +kernel
theorem d_Md_weaves1_45 : decode m_Md_weaves1.2.1 45 = .ok (.return_, 1) := by decide +kernel
theorem d_Md_weaves1_36 : decode m_Md_weaves1.2.1 36 = .ok (.iconst 1, 1) := by decide +kernel
theorem d_Md_weaves1_37 : decode m_Md_weaves1.2.1 37 = .ok (.goto 4, 3) := by decide +kernel
theorem d_Md_weaves1_17 : decode m_Md_weaves1.2.1 17 = .ok (.iconst 1, 1) := by decide +kernel
theorem d_Md_weaves1_18 : decode m_Md_weaves1.2.1 18 = .ok (.goto 4, 3) := by decide +kernel
abbrev m_Md_paint : aw_MI := (⟨"MaypoleGreenModel", "paint", "(II)I"⟩, prog_14_method_87_code, 4, some .int)
theorem k_Md_paint : aw_K m_Md_paint 2 := ⟨aw_in 1733 (by decide +kernel) rfl, aw_in 16 (by decide +kernel) rfl, ⟨by decide, by decide, by decide +kernel⟩, by decide, by decide +kernel⟩
theorem d_Md_paint_0 : decode m_Md_paint.2.1 0 = .ok (.aload_n 0, 1) := by decide +kernel
theorem d_Md_paint_1 : decode m_Md_paint.2.1 1 = .ok (.iload_n 1, 1) := by decide +kernel
theorem d_Md_paint_2 : decode m_Md_paint.2.1 2 = .ok (.invokevirtual 313, 3) := by decide +kernel
theorem d_Md_paint_5 : decode m_Md_paint.2.1 5 = .ok (.ifCond .eq 15, 3) := by decide +kernel
theorem d_Md_paint_20 : decode m_Md_paint.2.1 20 = .ok (.aload_n 0, 1) := by decide +kernel
theorem d_Md_paint_21 : decode m_Md_paint.2.1 21 = .ok (.iconst 1, 1) := by decide +kernel
theorem d_Md_paint_22 : decode m_Md_paint.2.1 22 = .ok (.invokevirtual 118, 3) := by decide +kernel
theorem d_Md_paint_25 : decode m_Md_paint.2.1 25 = .ok (.ireturn, 1) := by decide +kernel
theorem d_Md_paint_8 : decode m_Md_paint.2.1 8 = .ok (.iload_n 2, 1) := by decide +kernel
theorem d_Md_paint_9 : decode m_Md_paint.2.1 9 = .ok (.i2l, 1) := by decide +kernel
theorem d_Md_paint_10 : decode m_Md_paint.2.1 10 = .ok (.lconst 0, 1) := by decide +kernel
theorem d_Md_paint_11 : decode m_Md_paint.2.1 11 = .ok (.ldc2_w 370, 3) := by decide +kernel
theorem cl_Md_370 : Cond.constantLong "MaypoleGreenModel" 370 (5) ∈ aw_T := aw_in 1734 (by decide +kernel) rfl
theorem d_Md_paint_14 : decode m_Md_paint.2.1 14 = .ok (.invokestatic 372, 3) := by decide +kernel
abbrev m_Md_isFrom : aw_MI := (⟨"MaypoleGreenModel", "isFrom", "(JJJ)Z"⟩, prog_14_method_18_code, 6, some .boolean)
theorem lk_Md_372 : Cond.methodLink "MaypoleGreenModel" 372 m_Md_isFrom.1 ∈ aw_T := aw_in 1735 (by decide +kernel) rfl
theorem k_Md_isFrom : aw_K m_Md_isFrom 3 := ⟨aw_in 1737 (by decide +kernel) rfl, aw_in 16 (by decide +kernel) rfl, ⟨by decide, by decide, by decide +kernel⟩, by decide, by decide +kernel⟩
theorem st_Md_isFrom : Cond.static m_Md_isFrom.1 ∈ aw_T := aw_in 1736 (by decide +kernel) rfl
theorem d_Md_paint_17 : decode m_Md_paint.2.1 17 = .ok (.ifCond .ne 9, 3) := by decide +kernel
theorem d_Md_paint_26 : decode m_Md_paint.2.1 26 = .ok (.aload_n 0, 1) := by decide +kernel
theorem d_Md_paint_27 : decode m_Md_paint.2.1 27 = .ok (.getfield 7, 3) := by decide +kernel
theorem d_Md_paint_30 : decode m_Md_paint.2.1 30 = .ok (.bipush 10, 2) := by decide +kernel
theorem d_Md_paint_32 : decode m_Md_paint.2.1 32 = .ok (.iload_n 1, 1) := by decide +kernel
theorem d_Md_paint_33 : decode m_Md_paint.2.1 33 = .ok (.iadd, 1) := by decide +kernel
theorem d_Md_paint_34 : decode m_Md_paint.2.1 34 = .ok (.iaload, 1) := by decide +kernel
theorem d_Md_paint_35 : decode m_Md_paint.2.1 35 = .ok (.istore_n 3, 1) := by decide +kernel
theorem d_Md_paint_36 : decode m_Md_paint.2.1 36 = .ok (.aload_n 0, 1) := by decide +kernel
theorem d_Md_paint_37 : decode m_Md_paint.2.1 37 = .ok (.iload_n 1, 1) := by decide +kernel
theorem d_Md_paint_38 : decode m_Md_paint.2.1 38 = .ok (.iload_n 2, 1) := by decide +kernel
theorem d_Md_paint_39 : decode m_Md_paint.2.1 39 = .ok (.invokevirtual 376, 3) := by decide +kernel
abbrev m_Md_paints : aw_MI := (⟨"MaypoleGreenModel", "paints", "(II)Z"⟩, prog_14_method_86_code, 4, some .boolean)
theorem lk_Md_376 : Cond.methodLink "MaypoleGreenModel" 376 m_Md_paints.1 ∈ aw_T := aw_in 1738 (by decide +kernel) rfl
theorem k_Md_paints : aw_K m_Md_paints 2 := ⟨aw_in 1741 (by decide +kernel) rfl, aw_in 16 (by decide +kernel) rfl, ⟨by decide, by decide, by decide +kernel⟩, by decide, by decide +kernel⟩
theorem in_Md_paints : Cond.instanceMethod m_Md_paints.1 ∈ aw_T := aw_in 1740 (by decide +kernel) rfl
theorem se_Md_paints : Cond.selects m_Md_paints.1.cls m_Md_paints.1 m_Md_paints.1 ∈ aw_T := aw_inP 109 (by decide +kernel) rfl
theorem d_Md_paint_42 : decode m_Md_paint.2.1 42 = .ok (.pop, 1) := by decide +kernel
theorem d_Md_paint_43 : decode m_Md_paint.2.1 43 = .ok (.aload_n 0, 1) := by decide +kernel
theorem d_Md_paint_44 : decode m_Md_paint.2.1 44 = .ok (.iload_n 3, 1) := by decide +kernel
theorem d_Md_paint_45 : decode m_Md_paint.2.1 45 = .ok (.invokevirtual 122, 3) := by decide +kernel
theorem d_Md_paint_48 : decode m_Md_paint.2.1 48 = .ok (.ireturn, 1) := by decide +kernel
theorem d_Md_isFrom_0 : decode m_Md_isFrom.2.1 0 = .ok (.lload_n 0, 1) := by decide +kernel
theorem d_Md_isFrom_1 : decode m_Md_isFrom.2.1 1 = .ok (.lload_n 2, 1) := by decide +kernel
theorem d_Md_isFrom_2 : decode m_Md_isFrom.2.1 2 = .ok (.lcmp, 1) := by decide +kernel
theorem d_Md_isFrom_3 : decode m_Md_isFrom.2.1 3 = .ok (.ifCond .lt 14, 3) := by decide +kernel
theorem d_Md_isFrom_17 : decode m_Md_isFrom.2.1 17 = .ok (.iconst 0, 1) := by decide +kernel
theorem d_Md_isFrom_18 : decode m_Md_isFrom.2.1 18 = .ok (.ireturn, 1) := by decide +kernel
theorem d_Md_isFrom_6 : decode m_Md_isFrom.2.1 6 = .ok (.lload_n 0, 1) := by decide +kernel
theorem d_Md_isFrom_7 : decode m_Md_isFrom.2.1 7 = .ok (.lload 4, 2) := by decide +kernel
theorem d_Md_isFrom_9 : decode m_Md_isFrom.2.1 9 = .ok (.lcmp, 1) := by decide +kernel
theorem d_Md_isFrom_10 : decode m_Md_isFrom.2.1 10 = .ok (.ifCond .gt 7, 3) := by decide +kernel
theorem d_Md_isFrom_13 : decode m_Md_isFrom.2.1 13 = .ok (.iconst 1, 1) := by decide +kernel
theorem d_Md_isFrom_14 : decode m_Md_isFrom.2.1 14 = .ok (.goto 4, 3) := by decide +kernel
theorem d_Md_paints_0 : decode m_Md_paints.2.1 0 = .ok (.aload_n 0, 1) := by decide +kernel
theorem d_Md_paints_1 : decode m_Md_paints.2.1 1 = .ok (.getfield 7, 3) := by decide +kernel
theorem d_Md_paints_4 : decode m_Md_paints.2.1 4 = .ok (.bipush 10, 2) := by decide +kernel
theorem d_Md_paints_6 : decode m_Md_paints.2.1 6 = .ok (.iload_n 1, 1) := by decide +kernel
theorem d_Md_paints_7 : decode m_Md_paints.2.1 7 = .ok (.iadd, 1) := by decide +kernel
theorem d_Md_paints_8 : decode m_Md_paints.2.1 8 = .ok (.iaload, 1) := by decide +kernel
theorem d_Md_paints_9 : decode m_Md_paints.2.1 9 = .ok (.iload_n 2, 1) := by decide +kernel
theorem d_Md_paints_10 : decode m_Md_paints.2.1 10 = .ok (.if_icmp .eq 7, 3) := by decide +kernel
theorem d_Md_paints_17 : decode m_Md_paints.2.1 17 = .ok (.iconst 0, 1) := by decide +kernel
theorem d_Md_paints_18 : decode m_Md_paints.2.1 18 = .ok (.istore_n 3, 1) := by decide +kernel
theorem d_Md_paints_19 : decode m_Md_paints.2.1 19 = .ok (.aload_n 0, 1) := by decide +kernel
theorem d_Md_paints_20 : decode m_Md_paints.2.1 20 = .ok (.getfield 7, 3) := by decide +kernel
theorem d_Md_paints_23 : decode m_Md_paints.2.1 23 = .ok (.bipush 10, 2) := by decide +kernel
theorem d_Md_paints_25 : decode m_Md_paints.2.1 25 = .ok (.iload_n 1, 1) := by decide +kernel
theorem d_Md_paints_26 : decode m_Md_paints.2.1 26 = .ok (.iadd, 1) := by decide +kernel
theorem d_Md_paints_27 : decode m_Md_paints.2.1 27 = .ok (.iload_n 2, 1) := by decide +kernel
theorem d_Md_paints_28 : decode m_Md_paints.2.1 28 = .ok (.iastore, 1) := by decide +kernel
theorem d_Md_paints_29 : decode m_Md_paints.2.1 29 = .ok (.iload_n 3, 1) := by decide +kernel
theorem d_Md_paints_30 : decode m_Md_paints.2.1 30 = .ok (.ireturn, 1) := by decide +kernel
theorem d_Md_paints_13 : decode m_Md_paints.2.1 13 = .ok (.iconst 1, 1) := by decide +kernel
theorem d_Md_paints_14 : decode m_Md_paints.2.1 14 = .ok (.goto 4, 3) := by decide +kernel
abbrev m_Md_trade : aw_MI := (⟨"MaypoleGreenModel", "trade", "(II)Z"⟩, prog_14_method_88_code, 4, some .boolean)
theorem k_Md_trade : aw_K m_Md_trade 2 := ⟨aw_in 1745 (by decide +kernel) rfl, aw_in 16 (by decide +kernel) rfl, ⟨by decide, by decide, by decide +kernel⟩, by decide, by decide +kernel⟩
theorem d_Md_trade_0 : decode m_Md_trade.2.1 0 = .ok (.aload_n 0, 1) := by decide +kernel
theorem d_Md_trade_1 : decode m_Md_trade.2.1 1 = .ok (.iload_n 1, 1) := by decide +kernel
theorem d_Md_trade_2 : decode m_Md_trade.2.1 2 = .ok (.iload_n 2, 1) := by decide +kernel
theorem d_Md_trade_3 : decode m_Md_trade.2.1 3 = .ok (.invokevirtual 379, 3) := by decide +kernel
abbrev m_Md_areTwo : aw_MI := (⟨"MaypoleGreenModel", "areTwo", "(II)Z"⟩, prog_14_method_60_code, 3, some .boolean)
theorem lk_Md_379 : Cond.methodLink "MaypoleGreenModel" 379 m_Md_areTwo.1 ∈ aw_T := aw_in 1746 (by decide +kernel) rfl
theorem k_Md_areTwo : aw_K m_Md_areTwo 2 := ⟨aw_in 1749 (by decide +kernel) rfl, aw_in 16 (by decide +kernel) rfl, ⟨by decide, by decide, by decide +kernel⟩, by decide, by decide +kernel⟩
theorem in_Md_areTwo : Cond.instanceMethod m_Md_areTwo.1 ∈ aw_T := aw_in 1748 (by decide +kernel) rfl
theorem se_Md_areTwo : Cond.selects m_Md_areTwo.1.cls m_Md_areTwo.1 m_Md_areTwo.1 ∈ aw_T := aw_inP 110 (by decide +kernel) rfl
theorem d_Md_trade_6 : decode m_Md_trade.2.1 6 = .ok (.ifCond .ne 9, 3) := by decide +kernel
theorem d_Md_trade_15 : decode m_Md_trade.2.1 15 = .ok (.aload_n 0, 1) := by decide +kernel
theorem d_Md_trade_16 : decode m_Md_trade.2.1 16 = .ok (.getfield 7, 3) := by decide +kernel
theorem d_Md_trade_19 : decode m_Md_trade.2.1 19 = .ok (.bipush 10, 2) := by decide +kernel
theorem d_Md_trade_21 : decode m_Md_trade.2.1 21 = .ok (.iload_n 1, 1) := by decide +kernel
theorem d_Md_trade_22 : decode m_Md_trade.2.1 22 = .ok (.iadd, 1) := by decide +kernel
theorem d_Md_trade_23 : decode m_Md_trade.2.1 23 = .ok (.iaload, 1) := by decide +kernel
theorem d_Md_trade_24 : decode m_Md_trade.2.1 24 = .ok (.istore_n 3, 1) := by decide +kernel
theorem d_Md_trade_25 : decode m_Md_trade.2.1 25 = .ok (.iload_n 3, 1) := by decide +kernel
theorem d_Md_trade_26 : decode m_Md_trade.2.1 26 = .ok (.aload_n 0, 1) := by decide +kernel
theorem d_Md_trade_27 : decode m_Md_trade.2.1 27 = .ok (.getfield 7, 3) := by decide +kernel
theorem d_Md_trade_30 : decode m_Md_trade.2.1 30 = .ok (.bipush 10, 2) := by decide +kernel
theorem d_Md_trade_32 : decode m_Md_trade.2.1 32 = .ok (.iload_n 2, 1) := by decide +kernel
theorem d_Md_trade_33 : decode m_Md_trade.2.1 33 = .ok (.iadd, 1) := by decide +kernel
theorem d_Md_trade_34 : decode m_Md_trade.2.1 34 = .ok (.iaload, 1) := by decide +kernel
theorem d_Md_trade_35 : decode m_Md_trade.2.1 35 = .ok (.if_icmp .ne 10, 3) := by decide +kernel
theorem d_Md_trade_45 : decode m_Md_trade.2.1 45 = .ok (.aload_n 0, 1) := by decide +kernel
theorem d_Md_trade_46 : decode m_Md_trade.2.1 46 = .ok (.getfield 7, 3) := by decide +kernel
theorem d_Md_trade_49 : decode m_Md_trade.2.1 49 = .ok (.bipush 10, 2) := by decide +kernel
theorem d_Md_trade_51 : decode m_Md_trade.2.1 51 = .ok (.iload_n 1, 1) := by decide +kernel
theorem d_Md_trade_52 : decode m_Md_trade.2.1 52 = .ok (.iadd, 1) := by decide +kernel
theorem d_Md_trade_53 : decode m_Md_trade.2.1 53 = .ok (.aload_n 0, 1) := by decide +kernel
theorem d_Md_trade_54 : decode m_Md_trade.2.1 54 = .ok (.getfield 7, 3) := by decide +kernel
theorem d_Md_trade_57 : decode m_Md_trade.2.1 57 = .ok (.bipush 10, 2) := by decide +kernel
theorem d_Md_trade_59 : decode m_Md_trade.2.1 59 = .ok (.iload_n 2, 1) := by decide +kernel
theorem d_Md_trade_60 : decode m_Md_trade.2.1 60 = .ok (.iadd, 1) := by decide +kernel
theorem d_Md_trade_61 : decode m_Md_trade.2.1 61 = .ok (.iaload, 1) := by decide +kernel
theorem d_Md_trade_62 : decode m_Md_trade.2.1 62 = .ok (.iastore, 1) := by decide +kernel
theorem d_Md_trade_63 : decode m_Md_trade.2.1 63 = .ok (.aload_n 0, 1) := by decide +kernel
theorem d_Md_trade_64 : decode m_Md_trade.2.1 64 = .ok (.getfield 7, 3) := by decide +kernel
theorem d_Md_trade_67 : decode m_Md_trade.2.1 67 = .ok (.bipush 10, 2) := by decide +kernel
theorem d_Md_trade_69 : decode m_Md_trade.2.1 69 = .ok (.iload_n 2, 1) := by decide +kernel
theorem d_Md_trade_70 : decode m_Md_trade.2.1 70 = .ok (.iadd, 1) := by decide +kernel
theorem d_Md_trade_71 : decode m_Md_trade.2.1 71 = .ok (.iload_n 3, 1) := by decide +kernel
theorem d_Md_trade_72 : decode m_Md_trade.2.1 72 = .ok (.iastore, 1) := by decide +kernel
theorem d_Md_trade_73 : decode m_Md_trade.2.1 73 = .ok (.aload_n 0, 1) := by decide +kernel
theorem d_Md_trade_74 : decode m_Md_trade.2.1 74 = .ok (.iconst 0, 1) := by decide +kernel
theorem d_Md_trade_75 : decode m_Md_trade.2.1 75 = .ok (.invokevirtual 125, 3) := by decide +kernel
theorem d_Md_trade_78 : decode m_Md_trade.2.1 78 = .ok (.ireturn, 1) := by decide +kernel
theorem d_Md_trade_38 : decode m_Md_trade.2.1 38 = .ok (.aload_n 0, 1) := by decide +kernel
theorem d_Md_trade_39 : decode m_Md_trade.2.1 39 = .ok (.bipush 7, 2) := by decide +kernel
theorem d_Md_trade_41 : decode m_Md_trade.2.1 41 = .ok (.invokevirtual 125, 3) := by decide +kernel
theorem d_Md_trade_44 : decode m_Md_trade.2.1 44 = .ok (.ireturn, 1) := by decide +kernel
theorem d_Md_trade_9 : decode m_Md_trade.2.1 9 = .ok (.aload_n 0, 1) := by decide +kernel
theorem d_Md_trade_10 : decode m_Md_trade.2.1 10 = .ok (.iconst 1, 1) := by decide +kernel
theorem d_Md_trade_11 : decode m_Md_trade.2.1 11 = .ok (.invokevirtual 125, 3) := by decide +kernel
theorem d_Md_trade_14 : decode m_Md_trade.2.1 14 = .ok (.ireturn, 1) := by decide +kernel
theorem d_Md_areTwo_0 : decode m_Md_areTwo.2.1 0 = .ok (.aload_n 0, 1) := by decide +kernel
theorem d_Md_areTwo_1 : decode m_Md_areTwo.2.1 1 = .ok (.iload_n 1, 1) := by decide +kernel
theorem d_Md_areTwo_2 : decode m_Md_areTwo.2.1 2 = .ok (.invokevirtual 313, 3) := by decide +kernel
theorem d_Md_areTwo_5 : decode m_Md_areTwo.2.1 5 = .ok (.ifCond .eq 20, 3) := by decide +kernel
theorem d_Md_areTwo_25 : decode m_Md_areTwo.2.1 25 = .ok (.iconst 0, 1) := by decide +kernel
theorem d_Md_areTwo_26 : decode m_Md_areTwo.2.1 26 = .ok (.ireturn, 1) := by decide +kernel
theorem d_Md_areTwo_8 : decode m_Md_areTwo.2.1 8 = .ok (.aload_n 0, 1) := by decide +kernel
theorem d_Md_areTwo_9 : decode m_Md_areTwo.2.1 9 = .ok (.iload_n 2, 1) := by decide +kernel
theorem d_Md_areTwo_10 : decode m_Md_areTwo.2.1 10 = .ok (.invokevirtual 313, 3) := by decide +kernel
theorem d_Md_areTwo_13 : decode m_Md_areTwo.2.1 13 = .ok (.ifCond .eq 12, 3) := by decide +kernel
theorem d_Md_areTwo_16 : decode m_Md_areTwo.2.1 16 = .ok (.iload_n 1, 1) := by decide +kernel
theorem d_Md_areTwo_17 : decode m_Md_areTwo.2.1 17 = .ok (.iload_n 2, 1) := by decide +kernel
theorem d_Md_areTwo_18 : decode m_Md_areTwo.2.1 18 = .ok (.if_icmp .eq 7, 3) := by decide +kernel
theorem d_Md_areTwo_21 : decode m_Md_areTwo.2.1 21 = .ok (.iconst 1, 1) := by decide +kernel
theorem d_Md_areTwo_22 : decode m_Md_areTwo.2.1 22 = .ok (.goto 4, 3) := by decide +kernel
abbrev m_Md_come : aw_MI := (⟨"MaypoleGreenModel", "come", "(I)I"⟩, prog_14_method_89_code, 3, some .int)
theorem k_Md_come : aw_K m_Md_come 1 := ⟨aw_in 1753 (by decide +kernel) rfl, aw_in 16 (by decide +kernel) rfl, ⟨by decide, by decide, by decide +kernel⟩, by decide, by decide +kernel⟩
theorem d_Md_come_0 : decode m_Md_come.2.1 0 = .ok (.iload_n 1, 1) := by decide +kernel
theorem d_Md_come_1 : decode m_Md_come.2.1 1 = .ok (.i2l, 1) := by decide +kernel
theorem d_Md_come_2 : decode m_Md_come.2.1 2 = .ok (.lconst 0, 1) := by decide +kernel
theorem d_Md_come_3 : decode m_Md_come.2.1 3 = .ok (.ldc2_w 370, 3) := by decide +kernel
theorem d_Md_come_6 : decode m_Md_come.2.1 6 = .ok (.invokestatic 372, 3) := by decide +kernel
theorem d_Md_come_9 : decode m_Md_come.2.1 9 = .ok (.ifCond .ne 9, 3) := by decide +kernel
theorem d_Md_come_18 : decode m_Md_come.2.1 18 = .ok (.aload_n 0, 1) := by decide +kernel
theorem d_Md_come_19 : decode m_Md_come.2.1 19 = .ok (.getfield 7, 3) := by decide +kernel
theorem d_Md_come_22 : decode m_Md_come.2.1 22 = .ok (.iconst 0, 1) := by decide +kernel
theorem d_Md_come_23 : decode m_Md_come.2.1 23 = .ok (.iaload, 1) := by decide +kernel
theorem d_Md_come_24 : decode m_Md_come.2.1 24 = .ok (.istore_n 2, 1) := by decide +kernel
theorem d_Md_come_25 : decode m_Md_come.2.1 25 = .ok (.iload_n 2, 1) := by decide +kernel
theorem d_Md_come_26 : decode m_Md_come.2.1 26 = .ok (.bipush 7, 2) := by decide +kernel
theorem d_Md_come_28 : decode m_Md_come.2.1 28 = .ok (.if_icmp .ne 9, 3) := by decide +kernel
theorem d_Md_come_37 : decode m_Md_come.2.1 37 = .ok (.aload_n 0, 1) := by decide +kernel
theorem d_Md_come_38 : decode m_Md_come.2.1 38 = .ok (.getfield 7, 3) := by decide +kernel
theorem d_Md_come_41 : decode m_Md_come.2.1 41 = .ok (.iconst 3, 1) := by decide +kernel
theorem d_Md_come_42 : decode m_Md_come.2.1 42 = .ok (.iaload, 1) := by decide +kernel
theorem d_Md_come_43 : decode m_Md_come.2.1 43 = .ok (.ifCond .gt 14, 3) := by decide +kernel
theorem d_Md_come_57 : decode m_Md_come.2.1 57 = .ok (.aload_n 0, 1) := by decide +kernel
theorem d_Md_come_58 : decode m_Md_come.2.1 58 = .ok (.bipush 7, 2) := by decide +kernel
theorem d_Md_come_60 : decode m_Md_come.2.1 60 = .ok (.invokevirtual 118, 3) := by decide +kernel
theorem d_Md_come_63 : decode m_Md_come.2.1 63 = .ok (.ireturn, 1) := by decide +kernel
theorem d_Md_come_46 : decode m_Md_come.2.1 46 = .ok (.aload_n 0, 1) := by decide +kernel
theorem d_Md_come_47 : decode m_Md_come.2.1 47 = .ok (.invokevirtual 328, 3) := by decide +kernel
theorem d_Md_come_50 : decode m_Md_come.2.1 50 = .ok (.invokestatic 322, 3) := by decide +kernel
theorem d_Md_come_53 : decode m_Md_come.2.1 53 = .ok (.iload_n 2, 1) := by decide +kernel
theorem d_Md_come_54 : decode m_Md_come.2.1 54 = .ok (.if_icmp .eq 10, 3) := by decide +kernel
theorem d_Md_come_64 : decode m_Md_come.2.1 64 = .ok (.aload_n 0, 1) := by decide +kernel
theorem d_Md_come_65 : decode m_Md_come.2.1 65 = .ok (.getfield 7, 3) := by decide +kernel
theorem d_Md_come_68 : decode m_Md_come.2.1 68 = .ok (.bipush 10, 2) := by decide +kernel
theorem d_Md_come_70 : decode m_Md_come.2.1 70 = .ok (.iload_n 2, 1) := by decide +kernel
theorem d_Md_come_71 : decode m_Md_come.2.1 71 = .ok (.iadd, 1) := by decide +kernel
theorem d_Md_come_72 : decode m_Md_come.2.1 72 = .ok (.iload_n 1, 1) := by decide +kernel
theorem d_Md_come_73 : decode m_Md_come.2.1 73 = .ok (.iastore, 1) := by decide +kernel
theorem d_Md_come_74 : decode m_Md_come.2.1 74 = .ok (.aload_n 0, 1) := by decide +kernel
theorem d_Md_come_75 : decode m_Md_come.2.1 75 = .ok (.getfield 7, 3) := by decide +kernel
theorem d_Md_come_78 : decode m_Md_come.2.1 78 = .ok (.bipush 17, 2) := by decide +kernel
theorem d_Md_come_80 : decode m_Md_come.2.1 80 = .ok (.iload_n 2, 1) := by decide +kernel
theorem d_Md_come_81 : decode m_Md_come.2.1 81 = .ok (.iadd, 1) := by decide +kernel
theorem d_Md_come_82 : decode m_Md_come.2.1 82 = .ok (.iload_n 2, 1) := by decide +kernel
theorem d_Md_come_83 : decode m_Md_come.2.1 83 = .ok (.iastore, 1) := by decide +kernel
theorem d_Md_come_84 : decode m_Md_come.2.1 84 = .ok (.aload_n 0, 1) := by decide +kernel
theorem d_Md_come_85 : decode m_Md_come.2.1 85 = .ok (.getfield 13, 3) := by decide +kernel
theorem d_Md_come_88 : decode m_Md_come.2.1 88 = .ok (.iload_n 2, 1) := by decide +kernel
theorem d_Md_come_89 : decode m_Md_come.2.1 89 = .ok (.lconst 0, 1) := by decide +kernel
theorem d_Md_come_90 : decode m_Md_come.2.1 90 = .ok (.lastore, 1) := by decide +kernel
theorem d_Md_come_91 : decode m_Md_come.2.1 91 = .ok (.aload_n 0, 1) := by decide +kernel
theorem d_Md_come_92 : decode m_Md_come.2.1 92 = .ok (.getfield 7, 3) := by decide +kernel
theorem d_Md_come_95 : decode m_Md_come.2.1 95 = .ok (.iconst 0, 1) := by decide +kernel
theorem d_Md_come_96 : decode m_Md_come.2.1 96 = .ok (.dup2, 1) := by decide +kernel
theorem d_Md_come_97 : decode m_Md_come.2.1 97 = .ok (.iaload, 1) := by decide +kernel
theorem d_Md_come_98 : decode m_Md_come.2.1 98 = .ok (.iconst 1, 1) := by decide +kernel
theorem d_Md_come_99 : decode m_Md_come.2.1 99 = .ok (.iadd, 1) := by decide +kernel
theorem d_Md_come_100 : decode m_Md_come.2.1 100 = .ok (.iastore, 1) := by decide +kernel
theorem d_Md_come_101 : decode m_Md_come.2.1 101 = .ok (.aload_n 0, 1) := by decide +kernel
theorem d_Md_come_102 : decode m_Md_come.2.1 102 = .ok (.iload_n 2, 1) := by decide +kernel
theorem d_Md_come_103 : decode m_Md_come.2.1 103 = .ok (.invokevirtual 122, 3) := by decide +kernel
theorem d_Md_come_106 : decode m_Md_come.2.1 106 = .ok (.ireturn, 1) := by decide +kernel
theorem d_Md_come_31 : decode m_Md_come.2.1 31 = .ok (.aload_n 0, 1) := by decide +kernel
theorem d_Md_come_32 : decode m_Md_come.2.1 32 = .ok (.iconst 4, 1) := by decide +kernel
theorem d_Md_come_33 : decode m_Md_come.2.1 33 = .ok (.invokevirtual 118, 3) := by decide +kernel
theorem d_Md_come_36 : decode m_Md_come.2.1 36 = .ok (.ireturn, 1) := by decide +kernel
theorem d_Md_come_12 : decode m_Md_come.2.1 12 = .ok (.aload_n 0, 1) := by decide +kernel
theorem d_Md_come_13 : decode m_Md_come.2.1 13 = .ok (.iconst 1, 1) := by decide +kernel
theorem d_Md_come_14 : decode m_Md_come.2.1 14 = .ok (.invokevirtual 118, 3) := by decide +kernel
theorem d_Md_come_17 : decode m_Md_come.2.1 17 = .ok (.ireturn, 1) := by decide +kernel
abbrev m_Md_rule : aw_MI := (⟨"MaypoleGreenModel", "rule", "(II)Z"⟩, prog_14_method_90_code, 3, some .boolean)
theorem k_Md_rule : aw_K m_Md_rule 2 := ⟨aw_in 1757 (by decide +kernel) rfl, aw_in 16 (by decide +kernel) rfl, ⟨by decide, by decide, by decide +kernel⟩, by decide, by decide +kernel⟩
theorem d_Md_rule_0 : decode m_Md_rule.2.1 0 = .ok (.iload_n 1, 1) := by decide +kernel
theorem d_Md_rule_1 : decode m_Md_rule.2.1 1 = .ok (.iconst 3, 1) := by decide +kernel
theorem d_Md_rule_2 : decode m_Md_rule.2.1 2 = .ok (.if_icmp .eq 8, 3) := by decide +kernel
theorem d_Md_rule_10 : decode m_Md_rule.2.1 10 = .ok (.iload_n 2, 1) := by decide +kernel
theorem d_Md_rule_11 : decode m_Md_rule.2.1 11 = .ok (.i2l, 1) := by decide +kernel
theorem d_Md_rule_12 : decode m_Md_rule.2.1 12 = .ok (.iload_n 1, 1) := by decide +kernel
theorem d_Md_rule_13 : decode m_Md_rule.2.1 13 = .ok (.iconst 3, 1) := by decide +kernel
theorem d_Md_rule_14 : decode m_Md_rule.2.1 14 = .ok (.if_icmp .ne 7, 3) := by decide +kernel
theorem d_Md_rule_21 : decode m_Md_rule.2.1 21 = .ok (.lconst 1, 1) := by decide +kernel
theorem d_Md_rule_22 : decode m_Md_rule.2.1 22 = .ok (.iload_n 1, 1) := by decide +kernel
theorem d_Md_rule_23 : decode m_Md_rule.2.1 23 = .ok (.iconst 3, 1) := by decide +kernel
theorem d_Md_rule_24 : decode m_Md_rule.2.1 24 = .ok (.if_icmp .ne 9, 3) := by decide +kernel
theorem d_Md_rule_33 : decode m_Md_rule.2.1 33 = .ok (.ldc2_w 384, 3) := by decide +kernel
theorem cl_Md_384 : Cond.constantLong "MaypoleGreenModel" 384 (40) ∈ aw_T := aw_in 1759 (by decide +kernel) rfl
theorem d_Md_rule_36 : decode m_Md_rule.2.1 36 = .ok (.invokestatic 372, 3) := by decide +kernel
theorem d_Md_rule_39 : decode m_Md_rule.2.1 39 = .ok (.ifCond .ne 9, 3) := by decide +kernel
theorem d_Md_rule_48 : decode m_Md_rule.2.1 48 = .ok (.aload_n 0, 1) := by decide +kernel
theorem d_Md_rule_49 : decode m_Md_rule.2.1 49 = .ok (.getfield 7, 3) := by decide +kernel
theorem d_Md_rule_52 : decode m_Md_rule.2.1 52 = .ok (.iload_n 1, 1) := by decide +kernel
theorem d_Md_rule_53 : decode m_Md_rule.2.1 53 = .ok (.iconst 3, 1) := by decide +kernel
theorem d_Md_rule_54 : decode m_Md_rule.2.1 54 = .ok (.if_icmp .ne 7, 3) := by decide +kernel
theorem d_Md_rule_61 : decode m_Md_rule.2.1 61 = .ok (.iconst 2, 1) := by decide +kernel
theorem d_Md_rule_62 : decode m_Md_rule.2.1 62 = .ok (.iload_n 2, 1) := by decide +kernel
theorem d_Md_rule_63 : decode m_Md_rule.2.1 63 = .ok (.iastore, 1) := by decide +kernel
theorem d_Md_rule_64 : decode m_Md_rule.2.1 64 = .ok (.aload_n 0, 1) := by decide +kernel
theorem d_Md_rule_65 : decode m_Md_rule.2.1 65 = .ok (.iconst 0, 1) := by decide +kernel
theorem d_Md_rule_66 : decode m_Md_rule.2.1 66 = .ok (.invokevirtual 125, 3) := by decide +kernel
theorem d_Md_rule_69 : decode m_Md_rule.2.1 69 = .ok (.ireturn, 1) := by decide +kernel
theorem d_Md_rule_57 : decode m_Md_rule.2.1 57 = .ok (.iconst 1, 1) := by decide +kernel
theorem d_Md_rule_58 : decode m_Md_rule.2.1 58 = .ok (.goto 4, 3) := by decide +kernel
theorem d_Md_rule_42 : decode m_Md_rule.2.1 42 = .ok (.aload_n 0, 1) := by decide +kernel
theorem d_Md_rule_43 : decode m_Md_rule.2.1 43 = .ok (.iconst 1, 1) := by decide +kernel
theorem d_Md_rule_44 : decode m_Md_rule.2.1 44 = .ok (.invokevirtual 125, 3) := by decide +kernel
theorem d_Md_rule_47 : decode m_Md_rule.2.1 47 = .ok (.ireturn, 1) := by decide +kernel
theorem d_Md_rule_27 : decode m_Md_rule.2.1 27 = .ok (.ldc2_w 382, 3) := by decide +kernel
theorem cl_Md_382 : Cond.constantLong "MaypoleGreenModel" 382 (16) ∈ aw_T := aw_in 1758 (by decide +kernel) rfl
theorem d_Md_rule_30 : decode m_Md_rule.2.1 30 = .ok (.goto 6, 3) := by decide +kernel
theorem d_Md_rule_17 : decode m_Md_rule.2.1 17 = .ok (.lconst 0, 1) := by decide +kernel
theorem d_Md_rule_18 : decode m_Md_rule.2.1 18 = .ok (.goto 4, 3) := by decide +kernel
theorem d_Md_rule_5 : decode m_Md_rule.2.1 5 = .ok (.iload_n 1, 1) := by decide +kernel
theorem d_Md_rule_6 : decode m_Md_rule.2.1 6 = .ok (.iconst 4, 1) := by decide +kernel
theorem d_Md_rule_7 : decode m_Md_rule.2.1 7 = .ok (.if_icmp .ne 35, 3) := by decide +kernel
abbrev m_Md_bound : aw_MI := (⟨"MaypoleGreenModel", "bound", "(I)I"⟩, prog_14_method_91_code, 3, some .int)
theorem k_Md_bound : aw_K m_Md_bound 1 := ⟨aw_in 1763 (by decide +kernel) rfl, aw_in 16 (by decide +kernel) rfl, ⟨by decide, by decide, by decide +kernel⟩, by decide, by decide +kernel⟩
theorem d_Md_bound_0 : decode m_Md_bound.2.1 0 = .ok (.aload_n 0, 1) := by decide +kernel
theorem d_Md_bound_1 : decode m_Md_bound.2.1 1 = .ok (.iload_n 1, 1) := by decide +kernel
theorem d_Md_bound_2 : decode m_Md_bound.2.1 2 = .ok (.invokevirtual 313, 3) := by decide +kernel
theorem d_Md_bound_5 : decode m_Md_bound.2.1 5 = .ok (.ifCond .ne 9, 3) := by decide +kernel
theorem d_Md_bound_14 : decode m_Md_bound.2.1 14 = .ok (.iconst 0, 1) := by decide +kernel
theorem d_Md_bound_15 : decode m_Md_bound.2.1 15 = .ok (.istore_n 2, 1) := by decide +kernel
theorem d_Md_bound_8 : decode m_Md_bound.2.1 8 = .ok (.aload_n 0, 1) := by decide +kernel
theorem d_Md_bound_9 : decode m_Md_bound.2.1 9 = .ok (.iconst 1, 1) := by decide +kernel
theorem d_Md_bound_10 : decode m_Md_bound.2.1 10 = .ok (.invokevirtual 118, 3) := by decide +kernel
theorem d_Md_bound_13 : decode m_Md_bound.2.1 13 = .ok (.ireturn, 1) := by decide +kernel
theorem d_Md_bound_16 : decode m_Md_bound.2.1 16 = .ok (.iload_n 2, 1) := by decide +kernel
theorem d_Md_bound_17 : decode m_Md_bound.2.1 17 = .ok (.bipush 40, 2) := by decide +kernel
theorem d_Md_bound_19 : decode m_Md_bound.2.1 19 = .ok (.if_icmp .ge 50, 3) := by decide +kernel
theorem d_Md_bound_69 : decode m_Md_bound.2.1 69 = .ok (.aload_n 0, 1) := by decide +kernel
theorem d_Md_bound_70 : decode m_Md_bound.2.1 70 = .ok (.aload_n 0, 1) := by decide +kernel
theorem d_Md_bound_71 : decode m_Md_bound.2.1 71 = .ok (.invokevirtual 343, 3) := by decide +kernel
theorem d_Md_bound_74 : decode m_Md_bound.2.1 74 = .ok (.invokevirtual 122, 3) := by decide +kernel
theorem d_Md_bound_77 : decode m_Md_bound.2.1 77 = .ok (.ireturn, 1) := by decide +kernel
theorem d_Md_bound_22 : decode m_Md_bound.2.1 22 = .ok (.aload_n 0, 1) := by decide +kernel
theorem d_Md_bound_23 : decode m_Md_bound.2.1 23 = .ok (.getfield 50, 3) := by decide +kernel
theorem d_Md_bound_26 : decode m_Md_bound.2.1 26 = .ok (.iload_n 2, 1) := by decide +kernel
theorem d_Md_bound_27 : decode m_Md_bound.2.1 27 = .ok (.iload_n 2, 1) := by decide +kernel
theorem d_Md_bound_28 : decode m_Md_bound.2.1 28 = .ok (.aload_n 0, 1) := by decide +kernel
theorem d_Md_bound_29 : decode m_Md_bound.2.1 29 = .ok (.getfield 7, 3) := by decide +kernel
theorem d_Md_bound_32 : decode m_Md_bound.2.1 32 = .ok (.iconst 3, 1) := by decide +kernel
theorem d_Md_bound_33 : decode m_Md_bound.2.1 33 = .ok (.iaload, 1) := by decide +kernel
theorem d_Md_bound_34 : decode m_Md_bound.2.1 34 = .ok (.if_icmp .ge 27, 3) := by decide +kernel
theorem d_Md_bound_61 : decode m_Md_bound.2.1 61 = .ok (.iconst 0, 1) := by decide +kernel
theorem d_Md_bound_62 : decode m_Md_bound.2.1 62 = .ok (.bastore, 1) := by decide +kernel
theorem d_Md_bound_63 : decode m_Md_bound.2.1 63 = .ok (.iinc 2 1, 3) := by decide +kernel
theorem d_Md_bound_66 : decode m_Md_bound.2.1 66 = .ok (.goto (-50), 3) := by decide +kernel
theorem d_Md_bound_37 : decode m_Md_bound.2.1 37 = .ok (.aload_n 0, 1) := by decide +kernel
theorem d_Md_bound_38 : decode m_Md_bound.2.1 38 = .ok (.iload_n 2, 1) := by decide +kernel
theorem d_Md_bound_39 : decode m_Md_bound.2.1 39 = .ok (.iconst 2, 1) := by decide +kernel
theorem d_Md_bound_40 : decode m_Md_bound.2.1 40 = .ok (.invokevirtual 316, 3) := by decide +kernel
theorem d_Md_bound_43 : decode m_Md_bound.2.1 43 = .ok (.iload_n 1, 1) := by decide +kernel
theorem d_Md_bound_44 : decode m_Md_bound.2.1 44 = .ok (.if_icmp .eq 13, 3) := by decide +kernel
theorem d_Md_bound_57 : decode m_Md_bound.2.1 57 = .ok (.iconst 1, 1) := by decide +kernel
theorem d_Md_bound_58 : decode m_Md_bound.2.1 58 = .ok (.goto 4, 3) := by decide +kernel
theorem d_Md_bound_47 : decode m_Md_bound.2.1 47 = .ok (.aload_n 0, 1) := by decide +kernel
theorem d_Md_bound_48 : decode m_Md_bound.2.1 48 = .ok (.iload_n 2, 1) := by decide +kernel
theorem d_Md_bound_49 : decode m_Md_bound.2.1 49 = .ok (.iconst 3, 1) := by decide +kernel
theorem d_Md_bound_50 : decode m_Md_bound.2.1 50 = .ok (.invokevirtual 316, 3) := by decide +kernel
theorem d_Md_bound_53 : decode m_Md_bound.2.1 53 = .ok (.iload_n 1, 1) := by decide +kernel
theorem d_Md_bound_54 : decode m_Md_bound.2.1 54 = .ok (.if_icmp .ne 7, 3) := by decide +kernel
abbrev m_Md_homeward : aw_MI := (⟨"MaypoleGreenModel", "homeward", "()I"⟩, prog_14_method_98_code, 1, some .int)
theorem k_Md_homeward : aw_K m_Md_homeward 0 := ⟨aw_in 1767 (by decide +kernel) rfl, aw_in 16 (by decide +kernel) rfl, ⟨by decide, by decide, by decide +kernel⟩, by decide, by decide +kernel⟩
theorem d_Md_homeward_0 : decode m_Md_homeward.2.1 0 = .ok (.aload_n 0, 1) := by decide +kernel
theorem d_Md_homeward_1 : decode m_Md_homeward.2.1 1 = .ok (.invokevirtual 399, 3) := by decide +kernel
abbrev m_Md_laysHome : aw_MI := (⟨"MaypoleGreenModel", "laysHome", "()V"⟩, prog_14_method_96_code, 6, none)
theorem lk_Md_399 : Cond.methodLink "MaypoleGreenModel" 399 m_Md_laysHome.1 ∈ aw_T := aw_in 1768 (by decide +kernel) rfl
theorem k_Md_laysHome : aw_K m_Md_laysHome 0 := ⟨aw_in 1771 (by decide +kernel) rfl, aw_in 16 (by decide +kernel) rfl, ⟨by decide, by decide, by decide +kernel⟩, by decide, by decide +kernel⟩
theorem in_Md_laysHome : Cond.instanceMethod m_Md_laysHome.1 ∈ aw_T := aw_in 1770 (by decide +kernel) rfl
theorem se_Md_laysHome : Cond.selects m_Md_laysHome.1.cls m_Md_laysHome.1 m_Md_laysHome.1 ∈ aw_T := aw_inP 111 (by decide +kernel) rfl
theorem d_Md_homeward_4 : decode m_Md_homeward.2.1 4 = .ok (.aload_n 0, 1) := by decide +kernel
theorem d_Md_homeward_5 : decode m_Md_homeward.2.1 5 = .ok (.aload_n 0, 1) := by decide +kernel
theorem d_Md_homeward_6 : decode m_Md_homeward.2.1 6 = .ok (.getfield 54, 3) := by decide +kernel
theorem f_Md_54 : aw_F "MaypoleGreenModel" 54 11 28 true := ⟨cR11, cT11, 52, fun k => cY11.getD k .int, rfl, ci11, cy11, cn11, rfl, by decide, aw_in 1283 (by decide +kernel) rfl, rfl, rfl, rfl⟩
theorem d_Md_homeward_9 : decode m_Md_homeward.2.1 9 = .ok (.aload_n 0, 1) := by decide +kernel
theorem d_Md_homeward_10 : decode m_Md_homeward.2.1 10 = .ok (.invokevirtual 402, 3) := by decide +kernel
abbrev m_Md_orderNow : aw_MI := (⟨"MaypoleGreenModel", "orderNow", "()I"⟩, prog_14_method_97_code, 2, some .int)
theorem lk_Md_402 : Cond.methodLink "MaypoleGreenModel" 402 m_Md_orderNow.1 ∈ aw_T := aw_in 1788 (by decide +kernel) rfl
theorem k_Md_orderNow : aw_K m_Md_orderNow 0 := ⟨aw_in 1791 (by decide +kernel) rfl, aw_in 16 (by decide +kernel) rfl, ⟨by decide, by decide, by decide +kernel⟩, by decide, by decide +kernel⟩
theorem in_Md_orderNow : Cond.instanceMethod m_Md_orderNow.1 ∈ aw_T := aw_in 1790 (by decide +kernel) rfl
theorem se_Md_orderNow : Cond.selects m_Md_orderNow.1.cls m_Md_orderNow.1 m_Md_orderNow.1 ∈ aw_T := aw_inP 115 (by decide +kernel) rfl
theorem d_Md_homeward_13 : decode m_Md_homeward.2.1 13 = .ok (.iaload, 1) := by decide +kernel
theorem d_Md_homeward_14 : decode m_Md_homeward.2.1 14 = .ok (.invokevirtual 122, 3) := by decide +kernel
theorem d_Md_homeward_17 : decode m_Md_homeward.2.1 17 = .ok (.ireturn, 1) := by decide +kernel
theorem d_Md_laysHome_0 : decode m_Md_laysHome.2.1 0 = .ok (.aload_n 0, 1) := by decide +kernel
theorem d_Md_laysHome_1 : decode m_Md_laysHome.2.1 1 = .ok (.getfield 7, 3) := by decide +kernel
theorem d_Md_laysHome_4 : decode m_Md_laysHome.2.1 4 = .ok (.iconst 0, 1) := by decide +kernel
theorem d_Md_laysHome_5 : decode m_Md_laysHome.2.1 5 = .ok (.iaload, 1) := by decide +kernel
theorem d_Md_laysHome_6 : decode m_Md_laysHome.2.1 6 = .ok (.invokestatic 386, 3) := by decide +kernel
abbrev m_Md_ordersOf : aw_MI := (⟨"MaypoleGreenModel", "ordersOf", "(I)I"⟩, prog_14_method_93_code, 3, some .int)
theorem lk_Md_386 : Cond.methodLink "MaypoleGreenModel" 386 m_Md_ordersOf.1 ∈ aw_T := aw_in 1772 (by decide +kernel) rfl
theorem k_Md_ordersOf : aw_K m_Md_ordersOf 1 := ⟨aw_in 1774 (by decide +kernel) rfl, aw_in 16 (by decide +kernel) rfl, ⟨by decide, by decide, by decide +kernel⟩, by decide, by decide +kernel⟩
theorem st_Md_ordersOf : Cond.static m_Md_ordersOf.1 ∈ aw_T := aw_in 1773 (by decide +kernel) rfl
theorem d_Md_laysHome_9 : decode m_Md_laysHome.2.1 9 = .ok (.istore_n 1, 1) := by decide +kernel
theorem d_Md_laysHome_10 : decode m_Md_laysHome.2.1 10 = .ok (.iconst 0, 1) := by decide +kernel
theorem d_Md_laysHome_11 : decode m_Md_laysHome.2.1 11 = .ok (.istore_n 2, 1) := by decide +kernel
theorem d_Md_laysHome_12 : decode m_Md_laysHome.2.1 12 = .ok (.iload_n 2, 1) := by decide +kernel
theorem d_Md_laysHome_13 : decode m_Md_laysHome.2.1 13 = .ok (.iload_n 1, 1) := by decide +kernel
theorem d_Md_laysHome_14 : decode m_Md_laysHome.2.1 14 = .ok (.if_icmp .ge 18, 3) := by decide +kernel
theorem d_Md_laysHome_32 : decode m_Md_laysHome.2.1 32 = .ok (.aload_n 0, 1) := by decide +kernel
theorem d_Md_laysHome_33 : decode m_Md_laysHome.2.1 33 = .ok (.getfield 54, 3) := by decide +kernel
theorem d_Md_laysHome_36 : decode m_Md_laysHome.2.1 36 = .ok (.iconst 0, 1) := by decide +kernel
theorem d_Md_laysHome_37 : decode m_Md_laysHome.2.1 37 = .ok (.iconst 0, 1) := by decide +kernel
theorem d_Md_laysHome_38 : decode m_Md_laysHome.2.1 38 = .ok (.iastore, 1) := by decide +kernel
theorem d_Md_laysHome_39 : decode m_Md_laysHome.2.1 39 = .ok (.aload_n 0, 1) := by decide +kernel
theorem d_Md_laysHome_40 : decode m_Md_laysHome.2.1 40 = .ok (.getfield 57, 3) := by decide +kernel
theorem f_Md_57 : aw_F "MaypoleGreenModel" 57 11 29 true := ⟨cR11, cT11, 52, fun k => cY11.getD k .int, rfl, ci11, cy11, cn11, rfl, by decide, aw_in 1284 (by decide +kernel) rfl, rfl, rfl, rfl⟩
theorem d_Md_laysHome_43 : decode m_Md_laysHome.2.1 43 = .ok (.iconst 0, 1) := by decide +kernel
theorem d_Md_laysHome_44 : decode m_Md_laysHome.2.1 44 = .ok (.iconst 0, 1) := by decide +kernel
theorem d_Md_laysHome_45 : decode m_Md_laysHome.2.1 45 = .ok (.iastore, 1) := by decide +kernel
theorem d_Md_laysHome_46 : decode m_Md_laysHome.2.1 46 = .ok (.iconst 1, 1) := by decide +kernel
theorem d_Md_laysHome_47 : decode m_Md_laysHome.2.1 47 = .ok (.istore_n 2, 1) := by decide +kernel
theorem d_Md_laysHome_48 : decode m_Md_laysHome.2.1 48 = .ok (.iconst 0, 1) := by decide +kernel
theorem d_Md_laysHome_49 : decode m_Md_laysHome.2.1 49 = .ok (.istore_n 3, 1) := by decide +kernel
theorem d_Md_laysHome_17 : decode m_Md_laysHome.2.1 17 = .ok (.aload_n 0, 1) := by decide +kernel
theorem d_Md_laysHome_18 : decode m_Md_laysHome.2.1 18 = .ok (.getfield 54, 3) := by decide +kernel
theorem d_Md_laysHome_21 : decode m_Md_laysHome.2.1 21 = .ok (.iload_n 2, 1) := by decide +kernel
theorem d_Md_laysHome_22 : decode m_Md_laysHome.2.1 22 = .ok (.ldc_w 389, 3) := by decide +kernel
theorem cc_Md_389 : Cond.constant "MaypoleGreenModel" 389 (1000000) ∈ aw_T := aw_in 1775 (by decide +kernel) rfl
theorem d_Md_laysHome_25 : decode m_Md_laysHome.2.1 25 = .ok (.iastore, 1) := by decide +kernel
theorem d_Md_laysHome_26 : decode m_Md_laysHome.2.1 26 = .ok (.iinc 2 1, 3) := by decide +kernel
theorem d_Md_laysHome_29 : decode m_Md_laysHome.2.1 29 = .ok (.goto (-17), 3) := by decide +kernel
theorem d_Md_laysHome_50 : decode m_Md_laysHome.2.1 50 = .ok (.iload_n 3, 1) := by decide +kernel
theorem d_Md_laysHome_51 : decode m_Md_laysHome.2.1 51 = .ok (.iload_n 2, 1) := by decide +kernel
theorem d_Md_laysHome_52 : decode m_Md_laysHome.2.1 52 = .ok (.if_icmp .ge 103, 3) := by decide +kernel
theorem d_Md_laysHome_155 : decode m_Md_laysHome.2.1 155 = .ok (.return_, 1) := by decide +kernel
theorem d_Md_laysHome_55 : decode m_Md_laysHome.2.1 55 = .ok (.aload_n 0, 1) := by decide +kernel
theorem d_Md_laysHome_56 : decode m_Md_laysHome.2.1 56 = .ok (.aload_n 0, 1) := by decide +kernel
theorem d_Md_laysHome_57 : decode m_Md_laysHome.2.1 57 = .ok (.getfield 57, 3) := by decide +kernel
theorem d_Md_laysHome_60 : decode m_Md_laysHome.2.1 60 = .ok (.iload_n 3, 1) := by decide +kernel
theorem d_Md_laysHome_61 : decode m_Md_laysHome.2.1 61 = .ok (.iaload, 1) := by decide +kernel
theorem d_Md_laysHome_62 : decode m_Md_laysHome.2.1 62 = .ok (.invokevirtual 390, 3) := by decide +kernel
abbrev m_Md_laysOrder : aw_MI := (⟨"MaypoleGreenModel", "laysOrder", "(I)V"⟩, prog_14_method_94_code, 9, none)
theorem lk_Md_390 : Cond.methodLink "MaypoleGreenModel" 390 m_Md_laysOrder.1 ∈ aw_T := aw_in 1776 (by decide +kernel) rfl
theorem k_Md_laysOrder : aw_K m_Md_laysOrder 1 := ⟨aw_in 1779 (by decide +kernel) rfl, aw_in 16 (by decide +kernel) rfl, ⟨by decide, by decide, by decide +kernel⟩, by decide, by decide +kernel⟩
theorem in_Md_laysOrder : Cond.instanceMethod m_Md_laysOrder.1 ∈ aw_T := aw_in 1778 (by decide +kernel) rfl
theorem se_Md_laysOrder : Cond.selects m_Md_laysOrder.1.cls m_Md_laysOrder.1 m_Md_laysOrder.1 ∈ aw_T := aw_inP 112 (by decide +kernel) rfl
theorem d_Md_laysHome_65 : decode m_Md_laysHome.2.1 65 = .ok (.iconst 0, 1) := by decide +kernel
theorem d_Md_laysHome_66 : decode m_Md_laysHome.2.1 66 = .ok (.istore 4, 2) := by decide +kernel
theorem d_Md_laysHome_68 : decode m_Md_laysHome.2.1 68 = .ok (.iload 4, 2) := by decide +kernel
theorem d_Md_laysHome_70 : decode m_Md_laysHome.2.1 70 = .ok (.aload_n 0, 1) := by decide +kernel
theorem d_Md_laysHome_71 : decode m_Md_laysHome.2.1 71 = .ok (.iconst 0, 1) := by decide +kernel
theorem d_Md_laysHome_72 : decode m_Md_laysHome.2.1 72 = .ok (.invokevirtual 260, 3) := by decide +kernel
theorem d_Md_laysHome_75 : decode m_Md_laysHome.2.1 75 = .ok (.if_icmp .ge 74, 3) := by decide +kernel
theorem d_Md_laysHome_149 : decode m_Md_laysHome.2.1 149 = .ok (.iinc 3 1, 3) := by decide +kernel
theorem d_Md_laysHome_152 : decode m_Md_laysHome.2.1 152 = .ok (.goto (-102), 3) := by decide +kernel
theorem d_Md_laysHome_78 : decode m_Md_laysHome.2.1 78 = .ok (.aload_n 0, 1) := by decide +kernel
theorem d_Md_laysHome_79 : decode m_Md_laysHome.2.1 79 = .ok (.iload 4, 2) := by decide +kernel
theorem d_Md_laysHome_81 : decode m_Md_laysHome.2.1 81 = .ok (.invokevirtual 393, 3) := by decide +kernel
abbrev m_Md_turnsOrder : aw_MI := (⟨"MaypoleGreenModel", "turnsOrder", "(I)V"⟩, prog_14_method_95_code, 4, none)
theorem lk_Md_393 : Cond.methodLink "MaypoleGreenModel" 393 m_Md_turnsOrder.1 ∈ aw_T := aw_in 1780 (by decide +kernel) rfl
theorem k_Md_turnsOrder : aw_K m_Md_turnsOrder 1 := ⟨aw_in 1783 (by decide +kernel) rfl, aw_in 16 (by decide +kernel) rfl, ⟨by decide, by decide, by decide +kernel⟩, by decide, by decide +kernel⟩
theorem in_Md_turnsOrder : Cond.instanceMethod m_Md_turnsOrder.1 ∈ aw_T := aw_in 1782 (by decide +kernel) rfl
theorem se_Md_turnsOrder : Cond.selects m_Md_turnsOrder.1.cls m_Md_turnsOrder.1 m_Md_turnsOrder.1 ∈ aw_T := aw_inP 113 (by decide +kernel) rfl
theorem d_Md_laysHome_84 : decode m_Md_laysHome.2.1 84 = .ok (.aload_n 0, 1) := by decide +kernel
theorem d_Md_laysHome_85 : decode m_Md_laysHome.2.1 85 = .ok (.invokevirtual 396, 3) := by decide +kernel
abbrev m_Md_orderNumber : aw_MI := (⟨"MaypoleGreenModel", "orderNumber", "()I"⟩, prog_14_method_92_code, 6, some .int)
theorem lk_Md_396 : Cond.methodLink "MaypoleGreenModel" 396 m_Md_orderNumber.1 ∈ aw_T := aw_in 1784 (by decide +kernel) rfl
theorem k_Md_orderNumber : aw_K m_Md_orderNumber 0 := ⟨aw_in 1787 (by decide +kernel) rfl, aw_in 16 (by decide +kernel) rfl, ⟨by decide, by decide, by decide +kernel⟩, by decide, by decide +kernel⟩
theorem in_Md_orderNumber : Cond.instanceMethod m_Md_orderNumber.1 ∈ aw_T := aw_in 1786 (by decide +kernel) rfl
theorem se_Md_orderNumber : Cond.selects m_Md_orderNumber.1.cls m_Md_orderNumber.1 m_Md_orderNumber.1 ∈ aw_T := aw_inP 114 (by decide +kernel) rfl
theorem d_Md_laysHome_88 : decode m_Md_laysHome.2.1 88 = .ok (.istore 5, 2) := by decide +kernel
theorem d_Md_laysHome_90 : decode m_Md_laysHome.2.1 90 = .ok (.aload_n 0, 1) := by decide +kernel
theorem d_Md_laysHome_91 : decode m_Md_laysHome.2.1 91 = .ok (.iload 4, 2) := by decide +kernel
theorem d_Md_laysHome_93 : decode m_Md_laysHome.2.1 93 = .ok (.invokevirtual 393, 3) := by decide +kernel
theorem d_Md_laysHome_96 : decode m_Md_laysHome.2.1 96 = .ok (.aload_n 0, 1) := by decide +kernel
theorem d_Md_laysHome_97 : decode m_Md_laysHome.2.1 97 = .ok (.getfield 54, 3) := by decide +kernel
theorem d_Md_laysHome_100 : decode m_Md_laysHome.2.1 100 = .ok (.iload 5, 2) := by decide +kernel
theorem d_Md_laysHome_102 : decode m_Md_laysHome.2.1 102 = .ok (.iaload, 1) := by decide +kernel
theorem d_Md_laysHome_103 : decode m_Md_laysHome.2.1 103 = .ok (.ldc_w 389, 3) := by decide +kernel
theorem d_Md_laysHome_106 : decode m_Md_laysHome.2.1 106 = .ok (.if_icmp .ge 6, 3) := by decide +kernel
theorem d_Md_laysHome_112 : decode m_Md_laysHome.2.1 112 = .ok (.aload_n 0, 1) := by decide +kernel
theorem d_Md_laysHome_113 : decode m_Md_laysHome.2.1 113 = .ok (.getfield 54, 3) := by decide +kernel
theorem d_Md_laysHome_116 : decode m_Md_laysHome.2.1 116 = .ok (.iload 5, 2) := by decide +kernel
theorem d_Md_laysHome_118 : decode m_Md_laysHome.2.1 118 = .ok (.aload_n 0, 1) := by decide +kernel
theorem d_Md_laysHome_119 : decode m_Md_laysHome.2.1 119 = .ok (.getfield 54, 3) := by decide +kernel
theorem d_Md_laysHome_122 : decode m_Md_laysHome.2.1 122 = .ok (.aload_n 0, 1) := by decide +kernel
theorem d_Md_laysHome_123 : decode m_Md_laysHome.2.1 123 = .ok (.getfield 57, 3) := by decide +kernel
theorem d_Md_laysHome_126 : decode m_Md_laysHome.2.1 126 = .ok (.iload_n 3, 1) := by decide +kernel
theorem d_Md_laysHome_127 : decode m_Md_laysHome.2.1 127 = .ok (.iaload, 1) := by decide +kernel
theorem d_Md_laysHome_128 : decode m_Md_laysHome.2.1 128 = .ok (.iaload, 1) := by decide +kernel
theorem d_Md_laysHome_129 : decode m_Md_laysHome.2.1 129 = .ok (.iconst 1, 1) := by decide +kernel
theorem d_Md_laysHome_130 : decode m_Md_laysHome.2.1 130 = .ok (.iadd, 1) := by decide +kernel
theorem d_Md_laysHome_131 : decode m_Md_laysHome.2.1 131 = .ok (.iastore, 1) := by decide +kernel
theorem d_Md_laysHome_132 : decode m_Md_laysHome.2.1 132 = .ok (.aload_n 0, 1) := by decide +kernel
theorem d_Md_laysHome_133 : decode m_Md_laysHome.2.1 133 = .ok (.getfield 57, 3) := by decide +kernel
theorem d_Md_laysHome_136 : decode m_Md_laysHome.2.1 136 = .ok (.iload_n 2, 1) := by decide +kernel
theorem d_Md_laysHome_137 : decode m_Md_laysHome.2.1 137 = .ok (.iload 5, 2) := by decide +kernel
theorem d_Md_laysHome_139 : decode m_Md_laysHome.2.1 139 = .ok (.iastore, 1) := by decide +kernel
theorem d_Md_laysHome_140 : decode m_Md_laysHome.2.1 140 = .ok (.iinc 2 1, 3) := by decide +kernel
theorem d_Md_laysHome_143 : decode m_Md_laysHome.2.1 143 = .ok (.iinc 4 1, 3) := by decide +kernel
theorem d_Md_laysHome_146 : decode m_Md_laysHome.2.1 146 = .ok (.goto (-78), 3) := by decide +kernel
theorem d_Md_laysHome_109 : decode m_Md_laysHome.2.1 109 = .ok (.goto 34, 3) := by decide +kernel
