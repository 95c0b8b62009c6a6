abbrev m_Md_ask : aw_MI := (⟨"MaypoleGreenModel", "ask", "(III)I"⟩, prog_14_method_121_code, 8, some .int)
theorem k_Md_ask : aw_K m_Md_ask 3 := ⟨aw_in 1885 (by decide +kernel) rfl, aw_in 16 (by decide +kernel) rfl, ⟨by decide, by decide, by decide +kernel⟩, by decide, by decide +kernel⟩
theorem d_Md_ask_0 : decode m_Md_ask.2.1 0 = .ok (.aload_n 0, 1) := by decide +kernel
theorem d_Md_ask_1 : decode m_Md_ask.2.1 1 = .ok (.iload_n 1, 1) := by decide +kernel
theorem d_Md_ask_2 : decode m_Md_ask.2.1 2 = .ok (.iload_n 2, 1) := by decide +kernel
theorem d_Md_ask_3 : decode m_Md_ask.2.1 3 = .ok (.iload_n 3, 1) := by decide +kernel
theorem d_Md_ask_4 : decode m_Md_ask.2.1 4 = .ok (.invokevirtual 457, 3) := by decide +kernel
theorem d_Md_ask_7 : decode m_Md_ask.2.1 7 = .ok (.istore 4, 2) := by decide +kernel
theorem d_Md_ask_9 : decode m_Md_ask.2.1 9 = .ok (.iload 4, 2) := by decide +kernel
theorem d_Md_ask_11 : decode m_Md_ask.2.1 11 = .ok (.ifCond .le 10, 3) := by decide +kernel
theorem d_Md_ask_21 : decode m_Md_ask.2.1 21 = .ok (.aload_n 0, 1) := by decide +kernel
theorem d_Md_ask_22 : decode m_Md_ask.2.1 22 = .ok (.iload_n 1, 1) := by decide +kernel
theorem d_Md_ask_23 : decode m_Md_ask.2.1 23 = .ok (.iload_n 2, 1) := by decide +kernel
theorem d_Md_ask_24 : decode m_Md_ask.2.1 24 = .ok (.iload_n 3, 1) := by decide +kernel
theorem d_Md_ask_25 : decode m_Md_ask.2.1 25 = .ok (.invokevirtual 460, 3) := by decide +kernel
theorem d_Md_ask_28 : decode m_Md_ask.2.1 28 = .ok (.iconst (-1), 1) := by decide +kernel
theorem d_Md_ask_29 : decode m_Md_ask.2.1 29 = .ok (.istore 5, 2) := by decide +kernel
theorem d_Md_ask_31 : decode m_Md_ask.2.1 31 = .ok (.aload_n 0, 1) := by decide +kernel
theorem d_Md_ask_32 : decode m_Md_ask.2.1 32 = .ok (.getfield 442, 3) := by decide +kernel
theorem d_Md_ask_35 : decode m_Md_ask.2.1 35 = .ok (.istore 6, 2) := by decide +kernel
theorem d_Md_ask_37 : decode m_Md_ask.2.1 37 = .ok (.iconst 0, 1) := by decide +kernel
theorem d_Md_ask_38 : decode m_Md_ask.2.1 38 = .ok (.istore 7, 2) := by decide +kernel
theorem d_Md_ask_14 : decode m_Md_ask.2.1 14 = .ok (.aload_n 0, 1) := by decide +kernel
theorem d_Md_ask_15 : decode m_Md_ask.2.1 15 = .ok (.iload 4, 2) := by decide +kernel
theorem d_Md_ask_17 : decode m_Md_ask.2.1 17 = .ok (.invokevirtual 118, 3) := by decide +kernel
theorem d_Md_ask_20 : decode m_Md_ask.2.1 20 = .ok (.ireturn, 1) := by decide +kernel
theorem d_Md_ask_40 : decode m_Md_ask.2.1 40 = .ok (.iload 7, 2) := by decide +kernel
theorem d_Md_ask_42 : decode m_Md_ask.2.1 42 = .ok (.aload_n 0, 1) := by decide +kernel
theorem d_Md_ask_43 : decode m_Md_ask.2.1 43 = .ok (.iconst 0, 1) := by decide +kernel
theorem d_Md_ask_44 : decode m_Md_ask.2.1 44 = .ok (.invokevirtual 260, 3) := by decide +kernel
theorem d_Md_ask_47 : decode m_Md_ask.2.1 47 = .ok (.if_icmp .ge 35, 3) := by decide +kernel
theorem d_Md_ask_82 : decode m_Md_ask.2.1 82 = .ok (.aload_n 0, 1) := by decide +kernel
theorem d_Md_ask_83 : decode m_Md_ask.2.1 83 = .ok (.iload 5, 2) := by decide +kernel
theorem d_Md_ask_85 : decode m_Md_ask.2.1 85 = .ok (.invokevirtual 433, 3) := by decide +kernel
theorem d_Md_ask_88 : decode m_Md_ask.2.1 88 = .ok (.ireturn, 1) := by decide +kernel
theorem d_Md_ask_50 : decode m_Md_ask.2.1 50 = .ok (.aload_n 0, 1) := by decide +kernel
theorem d_Md_ask_51 : decode m_Md_ask.2.1 51 = .ok (.iload 7, 2) := by decide +kernel
theorem d_Md_ask_53 : decode m_Md_ask.2.1 53 = .ok (.invokevirtual 463, 3) := by decide +kernel
abbrev m_Md_mostAlike : aw_MI := (⟨"MaypoleGreenModel", "mostAlike", "(I)I"⟩, prog_14_method_120_code, 4, some .int)
theorem lk_Md_463 : Cond.methodLink "MaypoleGreenModel" 463 m_Md_mostAlike.1 ∈ aw_T := aw_in 1886 (by decide +kernel) rfl
theorem k_Md_mostAlike : aw_K m_Md_mostAlike 1 := ⟨aw_in 1889 (by decide +kernel) rfl, aw_in 16 (by decide +kernel) rfl, ⟨by decide, by decide, by decide +kernel⟩, by decide, by decide +kernel⟩
theorem in_Md_mostAlike : Cond.instanceMethod m_Md_mostAlike.1 ∈ aw_T := aw_in 1888 (by decide +kernel) rfl
theorem se_Md_mostAlike : Cond.selects m_Md_mostAlike.1.cls m_Md_mostAlike.1 m_Md_mostAlike.1 ∈ aw_T := aw_inP 129 (by decide +kernel) rfl
theorem d_Md_ask_56 : decode m_Md_ask.2.1 56 = .ok (.iload 6, 2) := by decide +kernel
theorem d_Md_ask_58 : decode m_Md_ask.2.1 58 = .ok (.if_icmp .lt 6, 3) := by decide +kernel
theorem d_Md_ask_64 : decode m_Md_ask.2.1 64 = .ok (.aload_n 0, 1) := by decide +kernel
theorem d_Md_ask_65 : decode m_Md_ask.2.1 65 = .ok (.iload 7, 2) := by decide +kernel
theorem d_Md_ask_67 : decode m_Md_ask.2.1 67 = .ok (.invokevirtual 463, 3) := by decide +kernel
theorem d_Md_ask_70 : decode m_Md_ask.2.1 70 = .ok (.istore 6, 2) := by decide +kernel
theorem d_Md_ask_72 : decode m_Md_ask.2.1 72 = .ok (.iload 7, 2) := by decide +kernel
theorem d_Md_ask_74 : decode m_Md_ask.2.1 74 = .ok (.istore 5, 2) := by decide +kernel
theorem d_Md_ask_76 : decode m_Md_ask.2.1 76 = .ok (.iinc 7 1, 3) := by decide +kernel
theorem d_Md_ask_79 : decode m_Md_ask.2.1 79 = .ok (.goto (-39), 3) := by decide +kernel
theorem d_Md_ask_61 : decode m_Md_ask.2.1 61 = .ok (.goto 15, 3) := by decide +kernel
theorem d_Md_mostAlike_0 : decode m_Md_mostAlike.2.1 0 = .ok (.iconst 0, 1) := by decide +kernel
theorem d_Md_mostAlike_1 : decode m_Md_mostAlike.2.1 1 = .ok (.istore_n 2, 1) := by decide +kernel
theorem d_Md_mostAlike_2 : decode m_Md_mostAlike.2.1 2 = .ok (.iconst 0, 1) := by decide +kernel
theorem d_Md_mostAlike_3 : decode m_Md_mostAlike.2.1 3 = .ok (.istore_n 3, 1) := by decide +kernel
theorem d_Md_mostAlike_4 : decode m_Md_mostAlike.2.1 4 = .ok (.iload_n 3, 1) := by decide +kernel
theorem d_Md_mostAlike_5 : decode m_Md_mostAlike.2.1 5 = .ok (.bipush 7, 2) := by decide +kernel
theorem d_Md_mostAlike_7 : decode m_Md_mostAlike.2.1 7 = .ok (.if_icmp .ge 25, 3) := by decide +kernel
theorem d_Md_mostAlike_32 : decode m_Md_mostAlike.2.1 32 = .ok (.iload_n 2, 1) := by decide +kernel
theorem d_Md_mostAlike_33 : decode m_Md_mostAlike.2.1 33 = .ok (.ireturn, 1) := by decide +kernel
theorem d_Md_mostAlike_10 : decode m_Md_mostAlike.2.1 10 = .ok (.iload_n 2, 1) := by decide +kernel
theorem d_Md_mostAlike_11 : decode m_Md_mostAlike.2.1 11 = .ok (.aload_n 0, 1) := by decide +kernel
theorem d_Md_mostAlike_12 : decode m_Md_mostAlike.2.1 12 = .ok (.getfield 81, 3) := by decide +kernel
theorem d_Md_mostAlike_15 : decode m_Md_mostAlike.2.1 15 = .ok (.bipush 7, 2) := by decide +kernel
theorem d_Md_mostAlike_17 : decode m_Md_mostAlike.2.1 17 = .ok (.iload_n 1, 1) := by decide +kernel
theorem d_Md_mostAlike_18 : decode m_Md_mostAlike.2.1 18 = .ok (.imul, 1) := by decide +kernel
theorem d_Md_mostAlike_19 : decode m_Md_mostAlike.2.1 19 = .ok (.iload_n 3, 1) := by decide +kernel
theorem d_Md_mostAlike_20 : decode m_Md_mostAlike.2.1 20 = .ok (.iadd, 1) := by decide +kernel
theorem d_Md_mostAlike_21 : decode m_Md_mostAlike.2.1 21 = .ok (.iaload, 1) := by decide +kernel
theorem d_Md_mostAlike_22 : decode m_Md_mostAlike.2.1 22 = .ok (.invokestatic 214, 3) := by decide +kernel
theorem d_Md_mostAlike_25 : decode m_Md_mostAlike.2.1 25 = .ok (.istore_n 2, 1) := by decide +kernel
theorem d_Md_mostAlike_26 : decode m_Md_mostAlike.2.1 26 = .ok (.iinc 3 1, 3) := by decide +kernel
theorem d_Md_mostAlike_29 : decode m_Md_mostAlike.2.1 29 = .ok (.goto (-25), 3) := by decide +kernel
abbrev m_Md_game : aw_MI := (⟨"MaypoleGreenModel", "game", "(I)I"⟩, prog_14_method_125_code, 2, some .int)
theorem k_Md_game : aw_K m_Md_game 1 := ⟨aw_in 1893 (by decide +kernel) rfl, aw_in 16 (by decide +kernel) rfl, ⟨by decide, by decide, by decide +kernel⟩, by decide, by decide +kernel⟩
theorem d_Md_game_0 : decode m_Md_game.2.1 0 = .ok (.iload_n 1, 1) := by decide +kernel
theorem d_Md_game_1 : decode m_Md_game.2.1 1 = .ok (.i2l, 1) := by decide +kernel
theorem d_Md_game_2 : decode m_Md_game.2.1 2 = .ok (.lconst 0, 1) := by decide +kernel
theorem d_Md_game_3 : decode m_Md_game.2.1 3 = .ok (.ldc2_w 472, 3) := by decide +kernel
theorem cl_Md_472 : Cond.constantLong "MaypoleGreenModel" 472 (3) ∈ aw_T := aw_in 1894 (by decide +kernel) rfl
theorem d_Md_game_6 : decode m_Md_game.2.1 6 = .ok (.invokestatic 372, 3) := by decide +kernel
theorem d_Md_game_9 : decode m_Md_game.2.1 9 = .ok (.ifCond .eq 15, 3) := by decide +kernel
theorem d_Md_game_24 : decode m_Md_game.2.1 24 = .ok (.aload_n 0, 1) := by decide +kernel
theorem d_Md_game_25 : decode m_Md_game.2.1 25 = .ok (.iconst 1, 1) := by decide +kernel
theorem d_Md_game_26 : decode m_Md_game.2.1 26 = .ok (.invokevirtual 118, 3) := by decide +kernel
theorem d_Md_game_29 : decode m_Md_game.2.1 29 = .ok (.ireturn, 1) := by decide +kernel
theorem d_Md_game_12 : decode m_Md_game.2.1 12 = .ok (.aload_n 0, 1) := by decide +kernel
theorem d_Md_game_13 : decode m_Md_game.2.1 13 = .ok (.aload_n 0, 1) := by decide +kernel
theorem d_Md_game_14 : decode m_Md_game.2.1 14 = .ok (.iload_n 1, 1) := by decide +kernel
theorem d_Md_game_15 : decode m_Md_game.2.1 15 = .ok (.invokevirtual 474, 3) := by decide +kernel
abbrev m_Md_playing : aw_MI := (⟨"MaypoleGreenModel", "playing", "(I)I"⟩, prog_14_method_124_code, 4, some .int)
theorem lk_Md_474 : Cond.methodLink "MaypoleGreenModel" 474 m_Md_playing.1 ∈ aw_T := aw_in 1895 (by decide +kernel) rfl
theorem k_Md_playing : aw_K m_Md_playing 1 := ⟨aw_in 1898 (by decide +kernel) rfl, aw_in 16 (by decide +kernel) rfl, ⟨by decide, by decide, by decide +kernel⟩, by decide, by decide +kernel⟩
theorem in_Md_playing : Cond.instanceMethod m_Md_playing.1 ∈ aw_T := aw_in 1897 (by decide +kernel) rfl
theorem se_Md_playing : Cond.selects m_Md_playing.1.cls m_Md_playing.1 m_Md_playing.1 ∈ aw_T := aw_inP 130 (by decide +kernel) rfl
theorem d_Md_game_18 : decode m_Md_game.2.1 18 = .ok (.invokevirtual 122, 3) := by decide +kernel
theorem d_Md_game_21 : decode m_Md_game.2.1 21 = .ok (.goto 8, 3) := by decide +kernel
theorem d_Md_playing_0 : decode m_Md_playing.2.1 0 = .ok (.iload_n 1, 1) := by decide +kernel
theorem d_Md_playing_1 : decode m_Md_playing.2.1 1 = .ok (.ifCond .ne 8, 3) := by decide +kernel
theorem d_Md_playing_9 : decode m_Md_playing.2.1 9 = .ok (.iconst 0, 1) := by decide +kernel
theorem d_Md_playing_10 : decode m_Md_playing.2.1 10 = .ok (.istore_n 2, 1) := by decide +kernel
theorem d_Md_playing_11 : decode m_Md_playing.2.1 11 = .ok (.aload_n 0, 1) := by decide +kernel
theorem d_Md_playing_12 : decode m_Md_playing.2.1 12 = .ok (.iconst 0, 1) := by decide +kernel
theorem d_Md_playing_13 : decode m_Md_playing.2.1 13 = .ok (.invokevirtual 466, 3) := by decide +kernel
abbrev m_Md_beginsAt : aw_MI := (⟨"MaypoleGreenModel", "beginsAt", "(I)V"⟩, prog_14_method_123_code, 2, none)
theorem lk_Md_466 : Cond.methodLink "MaypoleGreenModel" 466 m_Md_beginsAt.1 ∈ aw_T := aw_in 1899 (by decide +kernel) rfl
theorem k_Md_beginsAt : aw_K m_Md_beginsAt 1 := ⟨aw_in 1902 (by decide +kernel) rfl, aw_in 16 (by decide +kernel) rfl, ⟨by decide, by decide, by decide +kernel⟩, by decide, by decide +kernel⟩
theorem in_Md_beginsAt : Cond.instanceMethod m_Md_beginsAt.1 ∈ aw_T := aw_in 1901 (by decide +kernel) rfl
theorem se_Md_beginsAt : Cond.selects m_Md_beginsAt.1.cls m_Md_beginsAt.1 m_Md_beginsAt.1 ∈ aw_T := aw_inP 131 (by decide +kernel) rfl
theorem d_Md_playing_4 : decode m_Md_playing.2.1 4 = .ok (.aload_n 0, 1) := by decide +kernel
theorem d_Md_playing_5 : decode m_Md_playing.2.1 5 = .ok (.invokevirtual 334, 3) := by decide +kernel
theorem d_Md_playing_8 : decode m_Md_playing.2.1 8 = .ok (.ireturn, 1) := by decide +kernel
theorem d_Md_playing_16 : decode m_Md_playing.2.1 16 = .ok (.aload_n 0, 1) := by decide +kernel
theorem d_Md_playing_17 : decode m_Md_playing.2.1 17 = .ok (.iload_n 2, 1) := by decide +kernel
theorem d_Md_playing_18 : decode m_Md_playing.2.1 18 = .ok (.invokestatic 448, 3) := by decide +kernel
theorem d_Md_playing_21 : decode m_Md_playing.2.1 21 = .ok (.invokevirtual 454, 3) := by decide +kernel
theorem d_Md_playing_24 : decode m_Md_playing.2.1 24 = .ok (.aload_n 0, 1) := by decide +kernel
theorem d_Md_playing_25 : decode m_Md_playing.2.1 25 = .ok (.getfield 75, 3) := by decide +kernel
theorem d_Md_playing_28 : decode m_Md_playing.2.1 28 = .ok (.iload_n 2, 1) := by decide +kernel
theorem d_Md_playing_29 : decode m_Md_playing.2.1 29 = .ok (.dup2, 1) := by decide +kernel
theorem d_Md_playing_30 : decode m_Md_playing.2.1 30 = .ok (.iaload, 1) := by decide +kernel
theorem d_Md_playing_31 : decode m_Md_playing.2.1 31 = .ok (.iconst 1, 1) := by decide +kernel
theorem d_Md_playing_32 : decode m_Md_playing.2.1 32 = .ok (.iadd, 1) := by decide +kernel
theorem d_Md_playing_33 : decode m_Md_playing.2.1 33 = .ok (.iastore, 1) := by decide +kernel
theorem d_Md_playing_34 : decode m_Md_playing.2.1 34 = .ok (.aload_n 0, 1) := by decide +kernel
theorem d_Md_playing_35 : decode m_Md_playing.2.1 35 = .ok (.getfield 75, 3) := by decide +kernel
theorem d_Md_playing_38 : decode m_Md_playing.2.1 38 = .ok (.iload_n 2, 1) := by decide +kernel
theorem d_Md_playing_39 : decode m_Md_playing.2.1 39 = .ok (.iaload, 1) := by decide +kernel
theorem d_Md_playing_40 : decode m_Md_playing.2.1 40 = .ok (.istore_n 3, 1) := by decide +kernel
theorem d_Md_playing_41 : decode m_Md_playing.2.1 41 = .ok (.iload_n 3, 1) := by decide +kernel
theorem d_Md_playing_42 : decode m_Md_playing.2.1 42 = .ok (.iconst 2, 1) := by decide +kernel
theorem d_Md_playing_43 : decode m_Md_playing.2.1 43 = .ok (.aload_n 0, 1) := by decide +kernel
theorem d_Md_playing_44 : decode m_Md_playing.2.1 44 = .ok (.iconst 0, 1) := by decide +kernel
theorem d_Md_playing_45 : decode m_Md_playing.2.1 45 = .ok (.invokevirtual 260, 3) := by decide +kernel
theorem d_Md_playing_48 : decode m_Md_playing.2.1 48 = .ok (.imul, 1) := by decide +kernel
theorem d_Md_playing_49 : decode m_Md_playing.2.1 49 = .ok (.if_icmp .le 29, 3) := by decide +kernel
theorem d_Md_playing_78 : decode m_Md_playing.2.1 78 = .ok (.iload_n 3, 1) := by decide +kernel
theorem d_Md_playing_79 : decode m_Md_playing.2.1 79 = .ok (.iconst 2, 1) := by decide +kernel
theorem d_Md_playing_80 : decode m_Md_playing.2.1 80 = .ok (.aload_n 0, 1) := by decide +kernel
theorem d_Md_playing_81 : decode m_Md_playing.2.1 81 = .ok (.iconst 0, 1) := by decide +kernel
theorem d_Md_playing_82 : decode m_Md_playing.2.1 82 = .ok (.invokevirtual 260, 3) := by decide +kernel
theorem d_Md_playing_85 : decode m_Md_playing.2.1 85 = .ok (.imul, 1) := by decide +kernel
theorem d_Md_playing_86 : decode m_Md_playing.2.1 86 = .ok (.if_icmp .ge 20, 3) := by decide +kernel
theorem d_Md_playing_106 : decode m_Md_playing.2.1 106 = .ok (.iload_n 2, 1) := by decide +kernel
theorem d_Md_playing_107 : decode m_Md_playing.2.1 107 = .ok (.iconst 1, 1) := by decide +kernel
theorem d_Md_playing_108 : decode m_Md_playing.2.1 108 = .ok (.iadd, 1) := by decide +kernel
theorem d_Md_playing_109 : decode m_Md_playing.2.1 109 = .ok (.iload_n 1, 1) := by decide +kernel
theorem d_Md_playing_110 : decode m_Md_playing.2.1 110 = .ok (.if_icmp .ne 15, 3) := by decide +kernel
theorem d_Md_playing_125 : decode m_Md_playing.2.1 125 = .ok (.iinc 2 1, 3) := by decide +kernel
theorem d_Md_playing_128 : decode m_Md_playing.2.1 128 = .ok (.aload_n 0, 1) := by decide +kernel
theorem d_Md_playing_129 : decode m_Md_playing.2.1 129 = .ok (.iload_n 2, 1) := by decide +kernel
theorem d_Md_playing_130 : decode m_Md_playing.2.1 130 = .ok (.invokevirtual 466, 3) := by decide +kernel
theorem d_Md_playing_133 : decode m_Md_playing.2.1 133 = .ok (.goto (-117), 3) := by decide +kernel
theorem d_Md_playing_113 : decode m_Md_playing.2.1 113 = .ok (.aload_n 0, 1) := by decide +kernel
theorem d_Md_playing_114 : decode m_Md_playing.2.1 114 = .ok (.iload_n 2, 1) := by decide +kernel
theorem d_Md_playing_115 : decode m_Md_playing.2.1 115 = .ok (.aload_n 0, 1) := by decide +kernel
theorem d_Md_playing_116 : decode m_Md_playing.2.1 116 = .ok (.invokevirtual 334, 3) := by decide +kernel
theorem d_Md_playing_119 : decode m_Md_playing.2.1 119 = .ok (.invokevirtual 469, 3) := by decide +kernel
abbrev m_Md_settles : aw_MI := (⟨"MaypoleGreenModel", "settles", "(II)V"⟩, prog_14_method_122_code, 4, none)
theorem lk_Md_469 : Cond.methodLink "MaypoleGreenModel" 469 m_Md_settles.1 ∈ aw_T := aw_in 1903 (by decide +kernel) rfl
theorem k_Md_settles : aw_K m_Md_settles 2 := ⟨aw_in 1906 (by decide +kernel) rfl, aw_in 16 (by decide +kernel) rfl, ⟨by decide, by decide, by decide +kernel⟩, by decide, by decide +kernel⟩
theorem in_Md_settles : Cond.instanceMethod m_Md_settles.1 ∈ aw_T := aw_in 1905 (by decide +kernel) rfl
theorem se_Md_settles : Cond.selects m_Md_settles.1.cls m_Md_settles.1 m_Md_settles.1 ∈ aw_T := aw_inP 132 (by decide +kernel) rfl
theorem d_Md_playing_122 : decode m_Md_playing.2.1 122 = .ok (.goto 11, 3) := by decide +kernel
theorem d_Md_playing_89 : decode m_Md_playing.2.1 89 = .ok (.aload_n 0, 1) := by decide +kernel
theorem d_Md_playing_90 : decode m_Md_playing.2.1 90 = .ok (.iconst 0, 1) := by decide +kernel
theorem d_Md_playing_91 : decode m_Md_playing.2.1 91 = .ok (.iload_n 3, 1) := by decide +kernel
theorem d_Md_playing_92 : decode m_Md_playing.2.1 92 = .ok (.iconst 2, 1) := by decide +kernel
theorem d_Md_playing_93 : decode m_Md_playing.2.1 93 = .ok (.idiv, 1) := by decide +kernel
theorem d_Md_playing_94 : decode m_Md_playing.2.1 94 = .ok (.iload_n 3, 1) := by decide +kernel
theorem d_Md_playing_95 : decode m_Md_playing.2.1 95 = .ok (.iconst 2, 1) := by decide +kernel
theorem d_Md_playing_96 : decode m_Md_playing.2.1 96 = .ok (.irem, 1) := by decide +kernel
theorem d_Md_playing_97 : decode m_Md_playing.2.1 97 = .ok (.invokevirtual 269, 3) := by decide +kernel
theorem d_Md_playing_100 : decode m_Md_playing.2.1 100 = .ok (.ifCond .ne 6, 3) := by decide +kernel
theorem d_Md_playing_103 : decode m_Md_playing.2.1 103 = .ok (.goto (-87), 3) := by decide +kernel
theorem d_Md_playing_52 : decode m_Md_playing.2.1 52 = .ok (.iload_n 2, 1) := by decide +kernel
theorem d_Md_playing_53 : decode m_Md_playing.2.1 53 = .ok (.ifCond .ne 6, 3) := by decide +kernel
theorem d_Md_playing_59 : decode m_Md_playing.2.1 59 = .ok (.iinc 2 (-1), 3) := by decide +kernel
theorem d_Md_playing_62 : decode m_Md_playing.2.1 62 = .ok (.aload_n 0, 1) := by decide +kernel
theorem d_Md_playing_63 : decode m_Md_playing.2.1 63 = .ok (.iload_n 2, 1) := by decide +kernel
theorem d_Md_playing_64 : decode m_Md_playing.2.1 64 = .ok (.aload_n 0, 1) := by decide +kernel
theorem d_Md_playing_65 : decode m_Md_playing.2.1 65 = .ok (.getfield 84, 3) := by decide +kernel
theorem f_Md_84 : aw_F "MaypoleGreenModel" 84 11 40 true := ⟨cR11, cT11, 52, fun k => cY11.getD k .int, rfl, ci11, cy11, cn11, rfl, by decide, aw_in 1294 (by decide +kernel) rfl, rfl, rfl, rfl⟩
theorem d_Md_playing_68 : decode m_Md_playing.2.1 68 = .ok (.iload_n 2, 1) := by decide +kernel
theorem d_Md_playing_69 : decode m_Md_playing.2.1 69 = .ok (.iconst 1, 1) := by decide +kernel
theorem d_Md_playing_70 : decode m_Md_playing.2.1 70 = .ok (.iadd, 1) := by decide +kernel
theorem d_Md_playing_71 : decode m_Md_playing.2.1 71 = .ok (.iaload, 1) := by decide +kernel
theorem d_Md_playing_72 : decode m_Md_playing.2.1 72 = .ok (.invokevirtual 469, 3) := by decide +kernel
theorem d_Md_playing_75 : decode m_Md_playing.2.1 75 = .ok (.goto (-59), 3) := by decide +kernel
theorem d_Md_playing_56 : decode m_Md_playing.2.1 56 = .ok (.goto 80, 3) := by decide +kernel
theorem d_Md_playing_136 : decode m_Md_playing.2.1 136 = .ok (.aload_n 0, 1) := by decide +kernel
theorem d_Md_playing_137 : decode m_Md_playing.2.1 137 = .ok (.iconst 0, 1) := by decide +kernel
theorem d_Md_playing_138 : decode m_Md_playing.2.1 138 = .ok (.invokestatic 448, 3) := by decide +kernel
theorem d_Md_playing_141 : decode m_Md_playing.2.1 141 = .ok (.invokevirtual 454, 3) := by decide +kernel
theorem d_Md_playing_144 : decode m_Md_playing.2.1 144 = .ok (.aload_n 0, 1) := by decide +kernel
theorem d_Md_playing_145 : decode m_Md_playing.2.1 145 = .ok (.getfield 84, 3) := by decide +kernel
theorem d_Md_playing_148 : decode m_Md_playing.2.1 148 = .ok (.iconst 0, 1) := by decide +kernel
theorem d_Md_playing_149 : decode m_Md_playing.2.1 149 = .ok (.iaload, 1) := by decide +kernel
theorem d_Md_playing_150 : decode m_Md_playing.2.1 150 = .ok (.ireturn, 1) := by decide +kernel
theorem d_Md_beginsAt_0 : decode m_Md_beginsAt.2.1 0 = .ok (.aload_n 0, 1) := by decide +kernel
theorem d_Md_beginsAt_1 : decode m_Md_beginsAt.2.1 1 = .ok (.iload_n 1, 1) := by decide +kernel
theorem d_Md_beginsAt_2 : decode m_Md_beginsAt.2.1 2 = .ok (.invokestatic 448, 3) := by decide +kernel
theorem d_Md_beginsAt_5 : decode m_Md_beginsAt.2.1 5 = .ok (.invokevirtual 451, 3) := by decide +kernel
theorem d_Md_beginsAt_8 : decode m_Md_beginsAt.2.1 8 = .ok (.aload_n 0, 1) := by decide +kernel
theorem d_Md_beginsAt_9 : decode m_Md_beginsAt.2.1 9 = .ok (.getfield 75, 3) := by decide +kernel
theorem d_Md_beginsAt_12 : decode m_Md_beginsAt.2.1 12 = .ok (.iload_n 1, 1) := by decide +kernel
theorem d_Md_beginsAt_13 : decode m_Md_beginsAt.2.1 13 = .ok (.iconst (-1), 1) := by decide +kernel
theorem d_Md_beginsAt_14 : decode m_Md_beginsAt.2.1 14 = .ok (.iastore, 1) := by decide +kernel
theorem d_Md_beginsAt_15 : decode m_Md_beginsAt.2.1 15 = .ok (.aload_n 0, 1) := by decide +kernel
theorem d_Md_beginsAt_16 : decode m_Md_beginsAt.2.1 16 = .ok (.getfield 87, 3) := by decide +kernel
theorem f_Md_87 : aw_F "MaypoleGreenModel" 87 11 41 true := ⟨cR11, cT11, 52, fun k => cY11.getD k .int, rfl, ci11, cy11, cn11, rfl, by decide, aw_in 1295 (by decide +kernel) rfl, rfl, rfl, rfl⟩
theorem d_Md_beginsAt_19 : decode m_Md_beginsAt.2.1 19 = .ok (.iload_n 1, 1) := by decide +kernel
theorem d_Md_beginsAt_20 : decode m_Md_beginsAt.2.1 20 = .ok (.iconst (-1), 1) := by decide +kernel
theorem d_Md_beginsAt_21 : decode m_Md_beginsAt.2.1 21 = .ok (.iastore, 1) := by decide +kernel
theorem d_Md_beginsAt_22 : decode m_Md_beginsAt.2.1 22 = .ok (.return_, 1) := by decide +kernel
theorem d_Md_settles_0 : decode m_Md_settles.2.1 0 = .ok (.aload_n 0, 1) := by decide +kernel
theorem d_Md_settles_1 : decode m_Md_settles.2.1 1 = .ok (.getfield 87, 3) := by decide +kernel
theorem d_Md_settles_4 : decode m_Md_settles.2.1 4 = .ok (.iload_n 1, 1) := by decide +kernel
theorem d_Md_settles_5 : decode m_Md_settles.2.1 5 = .ok (.iaload, 1) := by decide +kernel
theorem d_Md_settles_6 : decode m_Md_settles.2.1 6 = .ok (.iconst (-1), 1) := by decide +kernel
theorem d_Md_settles_7 : decode m_Md_settles.2.1 7 = .ok (.if_icmp .ne 7, 3) := by decide +kernel
theorem d_Md_settles_14 : decode m_Md_settles.2.1 14 = .ok (.iconst 0, 1) := by decide +kernel
theorem d_Md_settles_15 : decode m_Md_settles.2.1 15 = .ok (.istore_n 3, 1) := by decide +kernel
theorem d_Md_settles_16 : decode m_Md_settles.2.1 16 = .ok (.iload_n 3, 1) := by decide +kernel
theorem d_Md_settles_17 : decode m_Md_settles.2.1 17 = .ok (.ifCond .ne 33, 3) := by decide +kernel
theorem d_Md_settles_20 : decode m_Md_settles.2.1 20 = .ok (.iload_n 1, 1) := by decide +kernel
theorem d_Md_settles_21 : decode m_Md_settles.2.1 21 = .ok (.iconst 2, 1) := by decide +kernel
theorem d_Md_settles_22 : decode m_Md_settles.2.1 22 = .ok (.irem, 1) := by decide +kernel
theorem d_Md_settles_23 : decode m_Md_settles.2.1 23 = .ok (.ifCond .ne 16, 3) := by decide +kernel
theorem d_Md_settles_39 : decode m_Md_settles.2.1 39 = .ok (.iload_n 2, 1) := by decide +kernel
theorem d_Md_settles_40 : decode m_Md_settles.2.1 40 = .ok (.aload_n 0, 1) := by decide +kernel
theorem d_Md_settles_41 : decode m_Md_settles.2.1 41 = .ok (.getfield 84, 3) := by decide +kernel
theorem d_Md_settles_44 : decode m_Md_settles.2.1 44 = .ok (.iload_n 1, 1) := by decide +kernel
theorem d_Md_settles_45 : decode m_Md_settles.2.1 45 = .ok (.iaload, 1) := by decide +kernel
theorem d_Md_settles_46 : decode m_Md_settles.2.1 46 = .ok (.if_icmp .lt 4, 3) := by decide +kernel
theorem d_Md_settles_50 : decode m_Md_settles.2.1 50 = .ok (.aload_n 0, 1) := by decide +kernel
theorem d_Md_settles_51 : decode m_Md_settles.2.1 51 = .ok (.getfield 84, 3) := by decide +kernel
theorem d_Md_settles_54 : decode m_Md_settles.2.1 54 = .ok (.iload_n 1, 1) := by decide +kernel
theorem d_Md_settles_55 : decode m_Md_settles.2.1 55 = .ok (.iload_n 2, 1) := by decide +kernel
theorem d_Md_settles_56 : decode m_Md_settles.2.1 56 = .ok (.iastore, 1) := by decide +kernel
theorem d_Md_settles_57 : decode m_Md_settles.2.1 57 = .ok (.aload_n 0, 1) := by decide +kernel
theorem d_Md_settles_58 : decode m_Md_settles.2.1 58 = .ok (.getfield 87, 3) := by decide +kernel
theorem d_Md_settles_61 : decode m_Md_settles.2.1 61 = .ok (.iload_n 1, 1) := by decide +kernel
theorem d_Md_settles_62 : decode m_Md_settles.2.1 62 = .ok (.aload_n 0, 1) := by decide +kernel
theorem d_Md_settles_63 : decode m_Md_settles.2.1 63 = .ok (.getfield 75, 3) := by decide +kernel
theorem d_Md_settles_66 : decode m_Md_settles.2.1 66 = .ok (.iload_n 1, 1) := by decide +kernel
theorem d_Md_settles_67 : decode m_Md_settles.2.1 67 = .ok (.iaload, 1) := by decide +kernel
theorem d_Md_settles_68 : decode m_Md_settles.2.1 68 = .ok (.iastore, 1) := by decide +kernel
theorem d_Md_settles_69 : decode m_Md_settles.2.1 69 = .ok (.return_, 1) := by decide +kernel
theorem d_Md_settles_49 : decode m_Md_settles.2.1 49 = .ok (.return_, 1) := by decide +kernel
theorem d_Md_settles_26 : decode m_Md_settles.2.1 26 = .ok (.iload_n 2, 1) := by decide +kernel
theorem d_Md_settles_27 : decode m_Md_settles.2.1 27 = .ok (.aload_n 0, 1) := by decide +kernel
theorem d_Md_settles_28 : decode m_Md_settles.2.1 28 = .ok (.getfield 84, 3) := by decide +kernel
theorem d_Md_settles_31 : decode m_Md_settles.2.1 31 = .ok (.iload_n 1, 1) := by decide +kernel
theorem d_Md_settles_32 : decode m_Md_settles.2.1 32 = .ok (.iaload, 1) := by decide +kernel
theorem d_Md_settles_33 : decode m_Md_settles.2.1 33 = .ok (.if_icmp .gt 17, 3) := by decide +kernel
theorem d_Md_settles_36 : decode m_Md_settles.2.1 36 = .ok (.goto 13, 3) := by decide +kernel
theorem d_Md_settles_10 : decode m_Md_settles.2.1 10 = .ok (.iconst 1, 1) := by decide +kernel
theorem d_Md_settles_11 : decode m_Md_settles.2.1 11 = .ok (.goto 4, 3) := by decide +kernel
abbrev m_Md_moveOf : aw_MI := (⟨"MaypoleGreenModel", "moveOf", "(I)I"⟩, prog_14_method_126_code, 2, some .int)
theorem k_Md_moveOf : aw_K m_Md_moveOf 1 := ⟨aw_in 1910 (by decide +kernel) rfl, aw_in 16 (by decide +kernel) rfl, ⟨by decide, by decide, by decide +kernel⟩, by decide, by decide +kernel⟩
theorem d_Md_moveOf_0 : decode m_Md_moveOf.2.1 0 = .ok (.iload_n 1, 1) := by decide +kernel
theorem d_Md_moveOf_1 : decode m_Md_moveOf.2.1 1 = .ok (.i2l, 1) := by decide +kernel
theorem d_Md_moveOf_2 : decode m_Md_moveOf.2.1 2 = .ok (.lconst 1, 1) := by decide +kernel
theorem d_Md_moveOf_3 : decode m_Md_moveOf.2.1 3 = .ok (.ldc2_w 472, 3) := by decide +kernel
theorem d_Md_moveOf_6 : decode m_Md_moveOf.2.1 6 = .ok (.invokestatic 372, 3) := by decide +kernel
theorem d_Md_moveOf_9 : decode m_Md_moveOf.2.1 9 = .ok (.ifCond .ne 9, 3) := by decide +kernel
theorem d_Md_moveOf_18 : decode m_Md_moveOf.2.1 18 = .ok (.aload_n 0, 1) := by decide +kernel
theorem d_Md_moveOf_19 : decode m_Md_moveOf.2.1 19 = .ok (.iload_n 1, 1) := by decide +kernel
theorem d_Md_moveOf_20 : decode m_Md_moveOf.2.1 20 = .ok (.invokevirtual 474, 3) := by decide +kernel
theorem d_Md_moveOf_23 : decode m_Md_moveOf.2.1 23 = .ok (.pop, 1) := by decide +kernel
theorem d_Md_moveOf_24 : decode m_Md_moveOf.2.1 24 = .ok (.aload_n 0, 1) := by decide +kernel
theorem d_Md_moveOf_25 : decode m_Md_moveOf.2.1 25 = .ok (.getfield 87, 3) := by decide +kernel
theorem d_Md_moveOf_28 : decode m_Md_moveOf.2.1 28 = .ok (.iconst 0, 1) := by decide +kernel
theorem d_Md_moveOf_29 : decode m_Md_moveOf.2.1 29 = .ok (.iaload, 1) := by decide +kernel
theorem d_Md_moveOf_30 : decode m_Md_moveOf.2.1 30 = .ok (.iconst 2, 1) := by decide +kernel
theorem d_Md_moveOf_31 : decode m_Md_moveOf.2.1 31 = .ok (.aload_n 0, 1) := by decide +kernel
theorem d_Md_moveOf_32 : decode m_Md_moveOf.2.1 32 = .ok (.iconst 0, 1) := by decide +kernel
theorem d_Md_moveOf_33 : decode m_Md_moveOf.2.1 33 = .ok (.invokevirtual 260, 3) := by decide +kernel
theorem d_Md_moveOf_36 : decode m_Md_moveOf.2.1 36 = .ok (.imul, 1) := by decide +kernel
theorem d_Md_moveOf_37 : decode m_Md_moveOf.2.1 37 = .ok (.if_icmp .ne 12, 3) := by decide +kernel
theorem d_Md_moveOf_49 : decode m_Md_moveOf.2.1 49 = .ok (.aload_n 0, 1) := by decide +kernel
theorem d_Md_moveOf_50 : decode m_Md_moveOf.2.1 50 = .ok (.aload_n 0, 1) := by decide +kernel
theorem d_Md_moveOf_51 : decode m_Md_moveOf.2.1 51 = .ok (.getfield 87, 3) := by decide +kernel
theorem d_Md_moveOf_54 : decode m_Md_moveOf.2.1 54 = .ok (.iconst 0, 1) := by decide +kernel
theorem d_Md_moveOf_55 : decode m_Md_moveOf.2.1 55 = .ok (.iaload, 1) := by decide +kernel
theorem d_Md_moveOf_56 : decode m_Md_moveOf.2.1 56 = .ok (.invokevirtual 122, 3) := by decide +kernel
theorem d_Md_moveOf_59 : decode m_Md_moveOf.2.1 59 = .ok (.ireturn, 1) := by decide +kernel
theorem d_Md_moveOf_40 : decode m_Md_moveOf.2.1 40 = .ok (.aload_n 0, 1) := by decide +kernel
theorem d_Md_moveOf_41 : decode m_Md_moveOf.2.1 41 = .ok (.bipush 6, 2) := by decide +kernel
theorem d_Md_moveOf_43 : decode m_Md_moveOf.2.1 43 = .ok (.invokevirtual 118, 3) := by decide +kernel
theorem d_Md_moveOf_46 : decode m_Md_moveOf.2.1 46 = .ok (.goto 13, 3) := by decide +kernel
theorem d_Md_moveOf_12 : decode m_Md_moveOf.2.1 12 = .ok (.aload_n 0, 1) := by decide +kernel
theorem d_Md_moveOf_13 : decode m_Md_moveOf.2.1 13 = .ok (.iconst 1, 1) := by decide +kernel
theorem d_Md_moveOf_14 : decode m_Md_moveOf.2.1 14 = .ok (.invokevirtual 118, 3) := by decide +kernel
theorem d_Md_moveOf_17 : decode m_Md_moveOf.2.1 17 = .ok (.ireturn, 1) := by decide +kernel
abbrev m_Md_slipped : aw_MI := (⟨"MaypoleGreenModel", "slipped", "(II)Z"⟩, prog_14_method_127_code, 8, some .boolean)
theorem k_Md_slipped : aw_K m_Md_slipped 2 := ⟨aw_in 1914 (by decide +kernel) rfl, aw_in 16 (by decide +kernel) rfl, ⟨by decide, by decide, by decide +kernel⟩, by decide, by decide +kernel⟩
theorem d_Md_slipped_0 : decode m_Md_slipped.2.1 0 = .ok (.iload_n 1, 1) := by decide +kernel
theorem d_Md_slipped_1 : decode m_Md_slipped.2.1 1 = .ok (.i2l, 1) := by decide +kernel
theorem d_Md_slipped_2 : decode m_Md_slipped.2.1 2 = .ok (.lconst 0, 1) := by decide +kernel
theorem d_Md_slipped_3 : decode m_Md_slipped.2.1 3 = .ok (.ldc2_w 477, 3) := by decide +kernel
theorem cl_Md_477 : Cond.constantLong "MaypoleGreenModel" 477 (12) ∈ aw_T := aw_in 1915 (by decide +kernel) rfl
theorem d_Md_slipped_6 : decode m_Md_slipped.2.1 6 = .ok (.invokestatic 372, 3) := by decide +kernel
theorem d_Md_slipped_9 : decode m_Md_slipped.2.1 9 = .ok (.ifCond .eq 15, 3) := by decide +kernel
theorem d_Md_slipped_24 : decode m_Md_slipped.2.1 24 = .ok (.aload_n 0, 1) := by decide +kernel
theorem d_Md_slipped_25 : decode m_Md_slipped.2.1 25 = .ok (.iconst 1, 1) := by decide +kernel
theorem d_Md_slipped_26 : decode m_Md_slipped.2.1 26 = .ok (.invokevirtual 125, 3) := by decide +kernel
theorem d_Md_slipped_29 : decode m_Md_slipped.2.1 29 = .ok (.ireturn, 1) := by decide +kernel
theorem d_Md_slipped_12 : decode m_Md_slipped.2.1 12 = .ok (.iload_n 2, 1) := by decide +kernel
theorem d_Md_slipped_13 : decode m_Md_slipped.2.1 13 = .ok (.i2l, 1) := by decide +kernel
theorem d_Md_slipped_14 : decode m_Md_slipped.2.1 14 = .ok (.lconst 0, 1) := by decide +kernel
theorem d_Md_slipped_15 : decode m_Md_slipped.2.1 15 = .ok (.ldc2_w 477, 3) := by decide +kernel
theorem d_Md_slipped_18 : decode m_Md_slipped.2.1 18 = .ok (.invokestatic 372, 3) := by decide +kernel
theorem d_Md_slipped_21 : decode m_Md_slipped.2.1 21 = .ok (.ifCond .ne 9, 3) := by decide +kernel
theorem d_Md_slipped_30 : decode m_Md_slipped.2.1 30 = .ok (.lconst 1, 1) := by decide +kernel
theorem d_Md_slipped_31 : decode m_Md_slipped.2.1 31 = .ok (.lstore_n 3, 1) := by decide +kernel
theorem d_Md_slipped_32 : decode m_Md_slipped.2.1 32 = .ok (.iconst 0, 1) := by decide +kernel
theorem d_Md_slipped_33 : decode m_Md_slipped.2.1 33 = .ok (.istore 5, 2) := by decide +kernel
theorem d_Md_slipped_35 : decode m_Md_slipped.2.1 35 = .ok (.iload 5, 2) := by decide +kernel
theorem d_Md_slipped_37 : decode m_Md_slipped.2.1 37 = .ok (.bipush 13, 2) := by decide +kernel
theorem d_Md_slipped_39 : decode m_Md_slipped.2.1 39 = .ok (.if_icmp .ge 26, 3) := by decide +kernel
theorem d_Md_slipped_65 : decode m_Md_slipped.2.1 65 = .ok (.iconst 0, 1) := by decide +kernel
theorem d_Md_slipped_66 : decode m_Md_slipped.2.1 66 = .ok (.istore 5, 2) := by decide +kernel
theorem d_Md_slipped_42 : decode m_Md_slipped.2.1 42 = .ok (.aload_n 0, 1) := by decide +kernel
theorem d_Md_slipped_43 : decode m_Md_slipped.2.1 43 = .ok (.getfield 90, 3) := by decide +kernel
theorem f_Md_90 : aw_F "MaypoleGreenModel" 90 11 42 true := ⟨cR11, cT11, 52, fun k => cY11.getD k .int, rfl, ci11, cy11, cn11, rfl, by decide, aw_in 1296 (by decide +kernel) rfl, rfl, rfl, rfl⟩
theorem d_Md_slipped_46 : decode m_Md_slipped.2.1 46 = .ok (.iload 5, 2) := by decide +kernel
theorem d_Md_slipped_48 : decode m_Md_slipped.2.1 48 = .ok (.iload 5, 2) := by decide +kernel
theorem d_Md_slipped_50 : decode m_Md_slipped.2.1 50 = .ok (.ifCond .ne 7, 3) := by decide +kernel
theorem d_Md_slipped_57 : decode m_Md_slipped.2.1 57 = .ok (.lconst 0, 1) := by decide +kernel
theorem d_Md_slipped_58 : decode m_Md_slipped.2.1 58 = .ok (.lastore, 1) := by decide +kernel
theorem d_Md_slipped_59 : decode m_Md_slipped.2.1 59 = .ok (.iinc 5 1, 3) := by decide +kernel
theorem d_Md_slipped_62 : decode m_Md_slipped.2.1 62 = .ok (.goto (-27), 3) := by decide +kernel
theorem d_Md_slipped_53 : decode m_Md_slipped.2.1 53 = .ok (.lconst 1, 1) := by decide +kernel
theorem d_Md_slipped_54 : decode m_Md_slipped.2.1 54 = .ok (.goto 4, 3) := by decide +kernel
theorem d_Md_slipped_68 : decode m_Md_slipped.2.1 68 = .ok (.iload 5, 2) := by decide +kernel
theorem d_Md_slipped_70 : decode m_Md_slipped.2.1 70 = .ok (.iload_n 1, 1) := by decide +kernel
theorem d_Md_slipped_71 : decode m_Md_slipped.2.1 71 = .ok (.if_icmp .ge 82, 3) := by decide +kernel
theorem d_Md_slipped_153 : decode m_Md_slipped.2.1 153 = .ok (.lconst 0, 1) := by decide +kernel
theorem d_Md_slipped_154 : decode m_Md_slipped.2.1 154 = .ok (.lstore 5, 2) := by decide +kernel
theorem d_Md_slipped_156 : decode m_Md_slipped.2.1 156 = .ok (.iload_n 2, 1) := by decide +kernel
theorem d_Md_slipped_157 : decode m_Md_slipped.2.1 157 = .ok (.istore 7, 2) := by decide +kernel
theorem d_Md_slipped_74 : decode m_Md_slipped.2.1 74 = .ok (.bipush 12, 2) := by decide +kernel
theorem d_Md_slipped_76 : decode m_Md_slipped.2.1 76 = .ok (.istore 6, 2) := by decide +kernel
theorem d_Md_slipped_159 : decode m_Md_slipped.2.1 159 = .ok (.iload 7, 2) := by decide +kernel
theorem d_Md_slipped_161 : decode m_Md_slipped.2.1 161 = .ok (.bipush 13, 2) := by decide +kernel
theorem d_Md_slipped_163 : decode m_Md_slipped.2.1 163 = .ok (.if_icmp .ge 21, 3) := by decide +kernel
theorem d_Md_slipped_184 : decode m_Md_slipped.2.1 184 = .ok (.aload_n 0, 1) := by decide +kernel
theorem d_Md_slipped_185 : decode m_Md_slipped.2.1 185 = .ok (.lload 5, 2) := by decide +kernel
theorem d_Md_slipped_187 : decode m_Md_slipped.2.1 187 = .ok (.lload_n 3, 1) := by decide +kernel
theorem d_Md_slipped_188 : decode m_Md_slipped.2.1 188 = .ok (.invokevirtual 479, 3) := by decide +kernel
abbrev m_Md_tellsBy : aw_MI := (⟨"MaypoleGreenModel", "tellsBy", "(JJ)Z"⟩, prog_14_method_10_code, 11, some .boolean)
theorem lk_Md_479 : Cond.methodLink "MaypoleGreenModel" 479 m_Md_tellsBy.1 ∈ aw_T := aw_in 1916 (by decide +kernel) rfl
theorem k_Md_tellsBy : aw_K m_Md_tellsBy 2 := ⟨aw_in 1919 (by decide +kernel) rfl, aw_in 16 (by decide +kernel) rfl, ⟨by decide, by decide, by decide +kernel⟩, by decide, by decide +kernel⟩
theorem in_Md_tellsBy : Cond.instanceMethod m_Md_tellsBy.1 ∈ aw_T := aw_in 1918 (by decide +kernel) rfl
theorem se_Md_tellsBy : Cond.selects m_Md_tellsBy.1.cls m_Md_tellsBy.1 m_Md_tellsBy.1 ∈ aw_T := aw_inP 133 (by decide +kernel) rfl
theorem d_Md_slipped_191 : decode m_Md_slipped.2.1 191 = .ok (.ireturn, 1) := by decide +kernel
theorem d_Md_slipped_166 : decode m_Md_slipped.2.1 166 = .ok (.lload 5, 2) := by decide +kernel
theorem d_Md_slipped_168 : decode m_Md_slipped.2.1 168 = .ok (.aload_n 0, 1) := by decide +kernel
theorem d_Md_slipped_169 : decode m_Md_slipped.2.1 169 = .ok (.getfield 90, 3) := by decide +kernel
theorem d_Md_slipped_172 : decode m_Md_slipped.2.1 172 = .ok (.iload 7, 2) := by decide +kernel
theorem d_Md_slipped_174 : decode m_Md_slipped.2.1 174 = .ok (.laload, 1) := by decide +kernel
theorem d_Md_slipped_175 : decode m_Md_slipped.2.1 175 = .ok (.ladd, 1) := by decide +kernel
theorem d_Md_slipped_176 : decode m_Md_slipped.2.1 176 = .ok (.lstore 5, 2) := by decide +kernel
theorem d_Md_slipped_178 : decode m_Md_slipped.2.1 178 = .ok (.iinc 7 1, 3) := by decide +kernel
theorem d_Md_slipped_181 : decode m_Md_slipped.2.1 181 = .ok (.goto (-22), 3) := by decide +kernel
theorem d_Md_slipped_78 : decode m_Md_slipped.2.1 78 = .ok (.iload 6, 2) := by decide +kernel
theorem d_Md_slipped_80 : decode m_Md_slipped.2.1 80 = .ok (.ifCond .lt 61, 3) := by decide +kernel
theorem d_Md_slipped_141 : decode m_Md_slipped.2.1 141 = .ok (.lload_n 3, 1) := by decide +kernel
theorem d_Md_slipped_142 : decode m_Md_slipped.2.1 142 = .ok (.ldc2_w 382, 3) := by decide +kernel
theorem d_Md_slipped_145 : decode m_Md_slipped.2.1 145 = .ok (.lmul, 1) := by decide +kernel
theorem d_Md_slipped_146 : decode m_Md_slipped.2.1 146 = .ok (.lstore_n 3, 1) := by decide +kernel
theorem d_Md_slipped_147 : decode m_Md_slipped.2.1 147 = .ok (.iinc 5 1, 3) := by decide +kernel
theorem d_Md_slipped_150 : decode m_Md_slipped.2.1 150 = .ok (.goto (-82), 3) := by decide +kernel
theorem d_Md_slipped_83 : decode m_Md_slipped.2.1 83 = .ok (.aload_n 0, 1) := by decide +kernel
theorem d_Md_slipped_84 : decode m_Md_slipped.2.1 84 = .ok (.getfield 90, 3) := by decide +kernel
theorem d_Md_slipped_87 : decode m_Md_slipped.2.1 87 = .ok (.iload 6, 2) := by decide +kernel
theorem d_Md_slipped_89 : decode m_Md_slipped.2.1 89 = .ok (.aload_n 0, 1) := by decide +kernel
theorem d_Md_slipped_90 : decode m_Md_slipped.2.1 90 = .ok (.getfield 90, 3) := by decide +kernel
theorem d_Md_slipped_93 : decode m_Md_slipped.2.1 93 = .ok (.iload 6, 2) := by decide +kernel
theorem d_Md_slipped_95 : decode m_Md_slipped.2.1 95 = .ok (.laload, 1) := by decide +kernel
theorem d_Md_slipped_96 : decode m_Md_slipped.2.1 96 = .ok (.bipush 16, 2) := by decide +kernel
theorem d_Md_slipped_98 : decode m_Md_slipped.2.1 98 = .ok (.aload_n 0, 1) := by decide +kernel
theorem d_Md_slipped_99 : decode m_Md_slipped.2.1 99 = .ok (.getfield 7, 3) := by decide +kernel
theorem d_Md_slipped_102 : decode m_Md_slipped.2.1 102 = .ok (.iconst 1, 1) := by decide +kernel
theorem d_Md_slipped_103 : decode m_Md_slipped.2.1 103 = .ok (.iaload, 1) := by decide +kernel
theorem d_Md_slipped_104 : decode m_Md_slipped.2.1 104 = .ok (.isub, 1) := by decide +kernel
theorem d_Md_slipped_105 : decode m_Md_slipped.2.1 105 = .ok (.i2l, 1) := by decide +kernel
theorem d_Md_slipped_106 : decode m_Md_slipped.2.1 106 = .ok (.lmul, 1) := by decide +kernel
theorem d_Md_slipped_107 : decode m_Md_slipped.2.1 107 = .ok (.iload 6, 2) := by decide +kernel
theorem d_Md_slipped_109 : decode m_Md_slipped.2.1 109 = .ok (.ifCond .ne 7, 3) := by decide +kernel
theorem d_Md_slipped_116 : decode m_Md_slipped.2.1 116 = .ok (.aload_n 0, 1) := by decide +kernel
theorem d_Md_slipped_117 : decode m_Md_slipped.2.1 117 = .ok (.getfield 90, 3) := by decide +kernel
theorem d_Md_slipped_120 : decode m_Md_slipped.2.1 120 = .ok (.iload 6, 2) := by decide +kernel
theorem d_Md_slipped_122 : decode m_Md_slipped.2.1 122 = .ok (.iconst 1, 1) := by decide +kernel
theorem d_Md_slipped_123 : decode m_Md_slipped.2.1 123 = .ok (.isub, 1) := by decide +kernel
theorem d_Md_slipped_124 : decode m_Md_slipped.2.1 124 = .ok (.laload, 1) := by decide +kernel
theorem d_Md_slipped_125 : decode m_Md_slipped.2.1 125 = .ok (.aload_n 0, 1) := by decide +kernel
theorem d_Md_slipped_126 : decode m_Md_slipped.2.1 126 = .ok (.getfield 7, 3) := by decide +kernel
theorem d_Md_slipped_129 : decode m_Md_slipped.2.1 129 = .ok (.iconst 1, 1) := by decide +kernel
theorem d_Md_slipped_130 : decode m_Md_slipped.2.1 130 = .ok (.iaload, 1) := by decide +kernel
theorem d_Md_slipped_131 : decode m_Md_slipped.2.1 131 = .ok (.i2l, 1) := by decide +kernel
theorem d_Md_slipped_132 : decode m_Md_slipped.2.1 132 = .ok (.lmul, 1) := by decide +kernel
theorem d_Md_slipped_133 : decode m_Md_slipped.2.1 133 = .ok (.ladd, 1) := by decide +kernel
theorem d_Md_slipped_134 : decode m_Md_slipped.2.1 134 = .ok (.lastore, 1) := by decide +kernel
theorem d_Md_slipped_135 : decode m_Md_slipped.2.1 135 = .ok (.iinc 6 (-1), 3) := by decide +kernel
theorem d_Md_slipped_138 : decode m_Md_slipped.2.1 138 = .ok (.goto (-60), 3) := by decide +kernel
theorem d_Md_slipped_112 : decode m_Md_slipped.2.1 112 = .ok (.lconst 0, 1) := by decide +kernel
theorem d_Md_slipped_113 : decode m_Md_slipped.2.1 113 = .ok (.goto 20, 3) := by decide +kernel
theorem d_Md_tellsBy_0 : decode m_Md_tellsBy.2.1 0 = .ok (.lload_n 1, 1) := by decide +kernel
theorem d_Md_tellsBy_1 : decode m_Md_tellsBy.2.1 1 = .ok (.lstore 5, 2) := by decide +kernel
theorem d_Md_tellsBy_3 : decode m_Md_tellsBy.2.1 3 = .ok (.lload_n 3, 1) := by decide +kernel
theorem d_Md_tellsBy_4 : decode m_Md_tellsBy.2.1 4 = .ok (.lstore 7, 2) := by decide +kernel
theorem d_Md_tellsBy_6 : decode m_Md_tellsBy.2.1 6 = .ok (.lload 7, 2) := by decide +kernel
theorem d_Md_tellsBy_8 : decode m_Md_tellsBy.2.1 8 = .ok (.lconst 0, 1) := by decide +kernel
theorem d_Md_tellsBy_9 : decode m_Md_tellsBy.2.1 9 = .ok (.lcmp, 1) := by decide +kernel
theorem d_Md_tellsBy_10 : decode m_Md_tellsBy.2.1 10 = .ok (.ifCond .eq 21, 3) := by decide +kernel
theorem d_Md_tellsBy_31 : decode m_Md_tellsBy.2.1 31 = .ok (.aload_n 0, 1) := by decide +kernel
theorem d_Md_tellsBy_32 : decode m_Md_tellsBy.2.1 32 = .ok (.lload_n 1, 1) := by decide +kernel
theorem d_Md_tellsBy_33 : decode m_Md_tellsBy.2.1 33 = .ok (.lload 5, 2) := by decide +kernel
theorem d_Md_tellsBy_35 : decode m_Md_tellsBy.2.1 35 = .ok (.ldiv, 1) := by decide +kernel
theorem d_Md_tellsBy_36 : decode m_Md_tellsBy.2.1 36 = .ok (.putfield 115, 3) := by decide +kernel
theorem d_Md_tellsBy_39 : decode m_Md_tellsBy.2.1 39 = .ok (.aload_n 0, 1) := by decide +kernel
theorem d_Md_tellsBy_40 : decode m_Md_tellsBy.2.1 40 = .ok (.lload_n 3, 1) := by decide +kernel
theorem d_Md_tellsBy_41 : decode m_Md_tellsBy.2.1 41 = .ok (.lload 5, 2) := by decide +kernel
theorem d_Md_tellsBy_43 : decode m_Md_tellsBy.2.1 43 = .ok (.ldiv, 1) := by decide +kernel
theorem d_Md_tellsBy_44 : decode m_Md_tellsBy.2.1 44 = .ok (.putfield 17, 3) := by decide +kernel
theorem d_Md_tellsBy_47 : decode m_Md_tellsBy.2.1 47 = .ok (.aload_n 0, 1) := by decide +kernel
theorem d_Md_tellsBy_48 : decode m_Md_tellsBy.2.1 48 = .ok (.iconst 0, 1) := by decide +kernel
theorem d_Md_tellsBy_49 : decode m_Md_tellsBy.2.1 49 = .ok (.invokevirtual 125, 3) := by decide +kernel
theorem d_Md_tellsBy_52 : decode m_Md_tellsBy.2.1 52 = .ok (.ireturn, 1) := by decide +kernel
theorem d_Md_tellsBy_13 : decode m_Md_tellsBy.2.1 13 = .ok (.lload 5, 2) := by decide +kernel
theorem d_Md_tellsBy_15 : decode m_Md_tellsBy.2.1 15 = .ok (.lload 7, 2) := by decide +kernel
theorem d_Md_tellsBy_17 : decode m_Md_tellsBy.2.1 17 = .ok (.lrem, 1) := by decide +kernel
theorem d_Md_tellsBy_18 : decode m_Md_tellsBy.2.1 18 = .ok (.lstore 9, 2) := by decide +kernel
theorem d_Md_tellsBy_20 : decode m_Md_tellsBy.2.1 20 = .ok (.lload 7, 2) := by decide +kernel
theorem d_Md_tellsBy_22 : decode m_Md_tellsBy.2.1 22 = .ok (.lstore 5, 2) := by decide +kernel
theorem d_Md_tellsBy_24 : decode m_Md_tellsBy.2.1 24 = .ok (.lload 9, 2) := by decide +kernel
theorem d_Md_tellsBy_26 : decode m_Md_tellsBy.2.1 26 = .ok (.lstore 7, 2) := by decide +kernel
theorem d_Md_tellsBy_28 : decode m_Md_tellsBy.2.1 28 = .ok (.goto (-22), 3) := by decide +kernel
abbrev m_Md_drift : aw_MI := (⟨"MaypoleGreenModel", "drift", "(III)Z"⟩, prog_14_method_128_code, 11, some .boolean)
theorem k_Md_drift : aw_K m_Md_drift 3 := ⟨aw_in 1923 (by decide +kernel) rfl, aw_in 16 (by decide +kernel) rfl, ⟨by decide, by decide, by decide +kernel⟩, by decide, by decide +kernel⟩
theorem d_Md_drift_0 : decode m_Md_drift.2.1 0 = .ok (.aload_n 0, 1) := by decide +kernel
theorem d_Md_drift_1 : decode m_Md_drift.2.1 1 = .ok (.iload_n 1, 1) := by decide +kernel
theorem d_Md_drift_2 : decode m_Md_drift.2.1 2 = .ok (.invokevirtual 313, 3) := by decide +kernel
theorem d_Md_drift_5 : decode m_Md_drift.2.1 5 = .ok (.ifCond .eq 23, 3) := by decide +kernel
theorem d_Md_drift_28 : decode m_Md_drift.2.1 28 = .ok (.aload_n 0, 1) := by decide +kernel
theorem d_Md_drift_29 : decode m_Md_drift.2.1 29 = .ok (.iconst 1, 1) := by decide +kernel
theorem d_Md_drift_30 : decode m_Md_drift.2.1 30 = .ok (.invokevirtual 125, 3) := by decide +kernel
theorem d_Md_drift_33 : decode m_Md_drift.2.1 33 = .ok (.ireturn, 1) := by decide +kernel
theorem d_Md_drift_8 : decode m_Md_drift.2.1 8 = .ok (.aload_n 0, 1) := by decide +kernel
theorem d_Md_drift_9 : decode m_Md_drift.2.1 9 = .ok (.iload_n 2, 1) := by decide +kernel
theorem d_Md_drift_10 : decode m_Md_drift.2.1 10 = .ok (.invokevirtual 313, 3) := by decide +kernel
theorem d_Md_drift_13 : decode m_Md_drift.2.1 13 = .ok (.ifCond .eq 15, 3) := by decide +kernel
theorem d_Md_drift_16 : decode m_Md_drift.2.1 16 = .ok (.iload_n 3, 1) := by decide +kernel
theorem d_Md_drift_17 : decode m_Md_drift.2.1 17 = .ok (.i2l, 1) := by decide +kernel
theorem d_Md_drift_18 : decode m_Md_drift.2.1 18 = .ok (.lconst 0, 1) := by decide +kernel
theorem d_Md_drift_19 : decode m_Md_drift.2.1 19 = .ok (.ldc2_w 370, 3) := by decide +kernel
theorem d_Md_drift_22 : decode m_Md_drift.2.1 22 = .ok (.invokestatic 372, 3) := by decide +kernel
theorem d_Md_drift_25 : decode m_Md_drift.2.1 25 = .ok (.ifCond .ne 9, 3) := by decide +kernel
theorem d_Md_drift_34 : decode m_Md_drift.2.1 34 = .ok (.iload_n 3, 1) := by decide +kernel
theorem d_Md_drift_35 : decode m_Md_drift.2.1 35 = .ok (.ifCond .le 18, 3) := by decide +kernel
theorem d_Md_drift_53 : decode m_Md_drift.2.1 53 = .ok (.aload_n 0, 1) := by decide +kernel
theorem d_Md_drift_54 : decode m_Md_drift.2.1 54 = .ok (.getfield 7, 3) := by decide +kernel
theorem d_Md_drift_57 : decode m_Md_drift.2.1 57 = .ok (.iconst 0, 1) := by decide +kernel
theorem d_Md_drift_58 : decode m_Md_drift.2.1 58 = .ok (.iaload, 1) := by decide +kernel
theorem d_Md_drift_59 : decode m_Md_drift.2.1 59 = .ok (.istore 4, 2) := by decide +kernel
theorem d_Md_drift_61 : decode m_Md_drift.2.1 61 = .ok (.lconst 1, 1) := by decide +kernel
theorem d_Md_drift_62 : decode m_Md_drift.2.1 62 = .ok (.lstore 5, 2) := by decide +kernel
theorem d_Md_drift_64 : decode m_Md_drift.2.1 64 = .ok (.iconst 0, 1) := by decide +kernel
theorem d_Md_drift_65 : decode m_Md_drift.2.1 65 = .ok (.istore 7, 2) := by decide +kernel
theorem d_Md_drift_38 : decode m_Md_drift.2.1 38 = .ok (.aload_n 0, 1) := by decide +kernel
theorem d_Md_drift_39 : decode m_Md_drift.2.1 39 = .ok (.iconst 0, 1) := by decide +kernel
theorem d_Md_drift_40 : decode m_Md_drift.2.1 40 = .ok (.invokevirtual 260, 3) := by decide +kernel
theorem d_Md_drift_43 : decode m_Md_drift.2.1 43 = .ok (.ifCond .ne 10, 3) := by decide +kernel
theorem d_Md_drift_46 : decode m_Md_drift.2.1 46 = .ok (.aload_n 0, 1) := by decide +kernel
theorem d_Md_drift_47 : decode m_Md_drift.2.1 47 = .ok (.bipush 6, 2) := by decide +kernel
theorem d_Md_drift_49 : decode m_Md_drift.2.1 49 = .ok (.invokevirtual 125, 3) := by decide +kernel
theorem d_Md_drift_52 : decode m_Md_drift.2.1 52 = .ok (.ireturn, 1) := by decide +kernel
theorem d_Md_drift_67 : decode m_Md_drift.2.1 67 = .ok (.iload 7, 2) := by decide +kernel
theorem d_Md_drift_69 : decode m_Md_drift.2.1 69 = .ok (.iload 4, 2) := by decide +kernel
theorem d_Md_drift_71 : decode m_Md_drift.2.1 71 = .ok (.if_icmp .ge 31, 3) := by decide +kernel
theorem d_Md_drift_102 : decode m_Md_drift.2.1 102 = .ok (.iconst 0, 1) := by decide +kernel
theorem d_Md_drift_103 : decode m_Md_drift.2.1 103 = .ok (.istore 7, 2) := by decide +kernel
theorem d_Md_drift_74 : decode m_Md_drift.2.1 74 = .ok (.aload_n 0, 1) := by decide +kernel
theorem d_Md_drift_75 : decode m_Md_drift.2.1 75 = .ok (.getfield 93, 3) := by decide +kernel
theorem f_Md_93 : aw_F "MaypoleGreenModel" 93 11 43 true := ⟨cR11, cT11, 52, fun k => cY11.getD k .int, rfl, ci11, cy11, cn11, rfl, by decide, aw_in 1297 (by decide +kernel) rfl, rfl, rfl, rfl⟩
theorem d_Md_drift_78 : decode m_Md_drift.2.1 78 = .ok (.iload 7, 2) := by decide +kernel
theorem d_Md_drift_80 : decode m_Md_drift.2.1 80 = .ok (.iload 7, 2) := by decide +kernel
theorem d_Md_drift_82 : decode m_Md_drift.2.1 82 = .ok (.aload_n 0, 1) := by decide +kernel
theorem d_Md_drift_83 : decode m_Md_drift.2.1 83 = .ok (.iload_n 1, 1) := by decide +kernel
theorem d_Md_drift_84 : decode m_Md_drift.2.1 84 = .ok (.invokevirtual 337, 3) := by decide +kernel
theorem d_Md_drift_87 : decode m_Md_drift.2.1 87 = .ok (.if_icmp .ne 7, 3) := by decide +kernel
theorem d_Md_drift_94 : decode m_Md_drift.2.1 94 = .ok (.lconst 0, 1) := by decide +kernel
theorem d_Md_drift_95 : decode m_Md_drift.2.1 95 = .ok (.lastore, 1) := by decide +kernel
theorem d_Md_drift_96 : decode m_Md_drift.2.1 96 = .ok (.iinc 7 1, 3) := by decide +kernel
theorem d_Md_drift_99 : decode m_Md_drift.2.1 99 = .ok (.goto (-32), 3) := by decide +kernel
theorem d_Md_drift_90 : decode m_Md_drift.2.1 90 = .ok (.lconst 1, 1) := by decide +kernel
theorem d_Md_drift_91 : decode m_Md_drift.2.1 91 = .ok (.goto 4, 3) := by decide +kernel
theorem d_Md_drift_105 : decode m_Md_drift.2.1 105 = .ok (.iload 7, 2) := by decide +kernel
theorem d_Md_drift_107 : decode m_Md_drift.2.1 107 = .ok (.iload_n 3, 1) := by decide +kernel
theorem d_Md_drift_108 : decode m_Md_drift.2.1 108 = .ok (.if_icmp .ge 159, 3) := by decide +kernel
theorem d_Md_drift_267 : decode m_Md_drift.2.1 267 = .ok (.aload_n 0, 1) := by decide +kernel
theorem d_Md_drift_268 : decode m_Md_drift.2.1 268 = .ok (.aload_n 0, 1) := by decide +kernel
theorem d_Md_drift_269 : decode m_Md_drift.2.1 269 = .ok (.getfield 93, 3) := by decide +kernel
theorem d_Md_drift_272 : decode m_Md_drift.2.1 272 = .ok (.iload_n 2, 1) := by decide +kernel
theorem d_Md_drift_273 : decode m_Md_drift.2.1 273 = .ok (.laload, 1) := by decide +kernel
theorem d_Md_drift_274 : decode m_Md_drift.2.1 274 = .ok (.lload 5, 2) := by decide +kernel
theorem d_Md_drift_276 : decode m_Md_drift.2.1 276 = .ok (.invokevirtual 479, 3) := by decide +kernel
theorem d_Md_drift_279 : decode m_Md_drift.2.1 279 = .ok (.ireturn, 1) := by decide +kernel
theorem d_Md_drift_111 : decode m_Md_drift.2.1 111 = .ok (.iconst 0, 1) := by decide +kernel
theorem d_Md_drift_112 : decode m_Md_drift.2.1 112 = .ok (.istore 8, 2) := by decide +kernel
theorem d_Md_drift_114 : decode m_Md_drift.2.1 114 = .ok (.iload 8, 2) := by decide +kernel
theorem d_Md_drift_116 : decode m_Md_drift.2.1 116 = .ok (.iload 4, 2) := by decide +kernel
theorem d_Md_drift_118 : decode m_Md_drift.2.1 118 = .ok (.if_icmp .ge 17, 3) := by decide +kernel
theorem d_Md_drift_135 : decode m_Md_drift.2.1 135 = .ok (.iconst 0, 1) := by decide +kernel
theorem d_Md_drift_136 : decode m_Md_drift.2.1 136 = .ok (.istore 8, 2) := by decide +kernel
theorem d_Md_drift_121 : decode m_Md_drift.2.1 121 = .ok (.aload_n 0, 1) := by decide +kernel
theorem d_Md_drift_122 : decode m_Md_drift.2.1 122 = .ok (.getfield 96, 3) := by decide +kernel
theorem f_Md_96 : aw_F "MaypoleGreenModel" 96 11 44 true := ⟨cR11, cT11, 52, fun k => cY11.getD k .int, rfl, ci11, cy11, cn11, rfl, by decide, aw_in 1298 (by decide +kernel) rfl, rfl, rfl, rfl⟩
theorem d_Md_drift_125 : decode m_Md_drift.2.1 125 = .ok (.iload 8, 2) := by decide +kernel
theorem d_Md_drift_127 : decode m_Md_drift.2.1 127 = .ok (.lconst 0, 1) := by decide +kernel
theorem d_Md_drift_128 : decode m_Md_drift.2.1 128 = .ok (.lastore, 1) := by decide +kernel
theorem d_Md_drift_129 : decode m_Md_drift.2.1 129 = .ok (.iinc 8 1, 3) := by decide +kernel
theorem d_Md_drift_132 : decode m_Md_drift.2.1 132 = .ok (.goto (-18), 3) := by decide +kernel
theorem d_Md_drift_138 : decode m_Md_drift.2.1 138 = .ok (.iload 8, 2) := by decide +kernel
theorem d_Md_drift_140 : decode m_Md_drift.2.1 140 = .ok (.aload_n 0, 1) := by decide +kernel
theorem d_Md_drift_141 : decode m_Md_drift.2.1 141 = .ok (.iconst 0, 1) := by decide +kernel
theorem d_Md_drift_142 : decode m_Md_drift.2.1 142 = .ok (.invokevirtual 260, 3) := by decide +kernel
theorem d_Md_drift_145 : decode m_Md_drift.2.1 145 = .ok (.if_icmp .ge 75, 3) := by decide +kernel
theorem d_Md_drift_220 : decode m_Md_drift.2.1 220 = .ok (.iconst 0, 1) := by decide +kernel
theorem d_Md_drift_221 : decode m_Md_drift.2.1 221 = .ok (.istore 8, 2) := by decide +kernel
theorem d_Md_drift_148 : decode m_Md_drift.2.1 148 = .ok (.iload 8, 2) := by decide +kernel
theorem d_Md_drift_150 : decode m_Md_drift.2.1 150 = .ok (.iconst 1, 1) := by decide +kernel
theorem d_Md_drift_151 : decode m_Md_drift.2.1 151 = .ok (.iadd, 1) := by decide +kernel
theorem d_Md_drift_152 : decode m_Md_drift.2.1 152 = .ok (.iload 4, 2) := by decide +kernel
theorem d_Md_drift_154 : decode m_Md_drift.2.1 154 = .ok (.irem, 1) := by decide +kernel
theorem d_Md_drift_155 : decode m_Md_drift.2.1 155 = .ok (.istore 9, 2) := by decide +kernel
theorem d_Md_drift_157 : decode m_Md_drift.2.1 157 = .ok (.iconst 0, 1) := by decide +kernel
theorem d_Md_drift_158 : decode m_Md_drift.2.1 158 = .ok (.istore 10, 2) := by decide +kernel
theorem d_Md_drift_223 : decode m_Md_drift.2.1 223 = .ok (.iload 8, 2) := by decide +kernel
theorem d_Md_drift_225 : decode m_Md_drift.2.1 225 = .ok (.iload 4, 2) := by decide +kernel
theorem d_Md_drift_227 : decode m_Md_drift.2.1 227 = .ok (.if_icmp .ge 23, 3) := by decide +kernel
theorem d_Md_drift_250 : decode m_Md_drift.2.1 250 = .ok (.lload 5, 2) := by decide +kernel
theorem d_Md_drift_252 : decode m_Md_drift.2.1 252 = .ok (.aload_n 0, 1) := by decide +kernel
theorem d_Md_drift_253 : decode m_Md_drift.2.1 253 = .ok (.iconst 0, 1) := by decide +kernel
theorem d_Md_drift_254 : decode m_Md_drift.2.1 254 = .ok (.invokevirtual 260, 3) := by decide +kernel
theorem d_Md_drift_257 : decode m_Md_drift.2.1 257 = .ok (.i2l, 1) := by decide +kernel
theorem d_Md_drift_258 : decode m_Md_drift.2.1 258 = .ok (.lmul, 1) := by decide +kernel
theorem d_Md_drift_259 : decode m_Md_drift.2.1 259 = .ok (.lstore 5, 2) := by decide +kernel
theorem d_Md_drift_261 : decode m_Md_drift.2.1 261 = .ok (.iinc 7 1, 3) := by decide +kernel
theorem d_Md_drift_264 : decode m_Md_drift.2.1 264 = .ok (.goto (-159), 3) := by decide +kernel
theorem d_Md_drift_230 : decode m_Md_drift.2.1 230 = .ok (.aload_n 0, 1) := by decide +kernel
theorem d_Md_drift_231 : decode m_Md_drift.2.1 231 = .ok (.getfield 93, 3) := by decide +kernel
theorem d_Md_drift_234 : decode m_Md_drift.2.1 234 = .ok (.iload 8, 2) := by decide +kernel
theorem d_Md_drift_236 : decode m_Md_drift.2.1 236 = .ok (.aload_n 0, 1) := by decide +kernel
theorem d_Md_drift_237 : decode m_Md_drift.2.1 237 = .ok (.getfield 96, 3) := by decide +kernel
theorem d_Md_drift_240 : decode m_Md_drift.2.1 240 = .ok (.iload 8, 2) := by decide +kernel
theorem d_Md_drift_242 : decode m_Md_drift.2.1 242 = .ok (.laload, 1) := by decide +kernel
theorem d_Md_drift_243 : decode m_Md_drift.2.1 243 = .ok (.lastore, 1) := by decide +kernel
theorem d_Md_drift_244 : decode m_Md_drift.2.1 244 = .ok (.iinc 8 1, 3) := by decide +kernel
theorem d_Md_drift_247 : decode m_Md_drift.2.1 247 = .ok (.goto (-24), 3) := by decide +kernel
theorem d_Md_drift_160 : decode m_Md_drift.2.1 160 = .ok (.iload 10, 2) := by decide +kernel
theorem d_Md_drift_162 : decode m_Md_drift.2.1 162 = .ok (.iload 4, 2) := by decide +kernel
theorem d_Md_drift_164 : decode m_Md_drift.2.1 164 = .ok (.if_icmp .ge 50, 3) := by decide +kernel
theorem d_Md_drift_214 : decode m_Md_drift.2.1 214 = .ok (.iinc 8 1, 3) := by decide +kernel
theorem d_Md_drift_217 : decode m_Md_drift.2.1 217 = .ok (.goto (-79), 3) := by decide +kernel
theorem d_Md_drift_167 : decode m_Md_drift.2.1 167 = .ok (.aload_n 0, 1) := by decide +kernel
theorem d_Md_drift_168 : decode m_Md_drift.2.1 168 = .ok (.getfield 96, 3) := by decide +kernel
theorem d_Md_drift_171 : decode m_Md_drift.2.1 171 = .ok (.iload 10, 2) := by decide +kernel
theorem d_Md_drift_173 : decode m_Md_drift.2.1 173 = .ok (.iload 8, 2) := by decide +kernel
theorem d_Md_drift_175 : decode m_Md_drift.2.1 175 = .ok (.if_icmp .ne 8, 3) := by decide +kernel
theorem d_Md_drift_183 : decode m_Md_drift.2.1 183 = .ok (.iload 10, 2) := by decide +kernel
theorem d_Md_drift_185 : decode m_Md_drift.2.1 185 = .ok (.iload 9, 2) := by decide +kernel
theorem d_Md_drift_187 : decode m_Md_drift.2.1 187 = .ok (.if_icmp .ne 8, 3) := by decide +kernel
theorem d_Md_drift_195 : decode m_Md_drift.2.1 195 = .ok (.iload 10, 2) := by decide +kernel
theorem d_Md_drift_197 : decode m_Md_drift.2.1 197 = .ok (.dup2, 1) := by decide +kernel
theorem d_Md_drift_198 : decode m_Md_drift.2.1 198 = .ok (.laload, 1) := by decide +kernel
theorem d_Md_drift_199 : decode m_Md_drift.2.1 199 = .ok (.aload_n 0, 1) := by decide +kernel
theorem d_Md_drift_200 : decode m_Md_drift.2.1 200 = .ok (.getfield 93, 3) := by decide +kernel
theorem d_Md_drift_203 : decode m_Md_drift.2.1 203 = .ok (.iload 10, 2) := by decide +kernel
theorem d_Md_drift_205 : decode m_Md_drift.2.1 205 = .ok (.laload, 1) := by decide +kernel
theorem d_Md_drift_206 : decode m_Md_drift.2.1 206 = .ok (.ladd, 1) := by decide +kernel
theorem d_Md_drift_207 : decode m_Md_drift.2.1 207 = .ok (.lastore, 1) := by decide +kernel
theorem d_Md_drift_208 : decode m_Md_drift.2.1 208 = .ok (.iinc 10 1, 3) := by decide +kernel
theorem d_Md_drift_211 : decode m_Md_drift.2.1 211 = .ok (.goto (-51), 3) := by decide +kernel
theorem d_Md_drift_190 : decode m_Md_drift.2.1 190 = .ok (.iload 8, 2) := by decide +kernel
theorem d_Md_drift_192 : decode m_Md_drift.2.1 192 = .ok (.goto 5, 3) := by decide +kernel
theorem d_Md_drift_178 : decode m_Md_drift.2.1 178 = .ok (.iload 9, 2) := by decide +kernel
theorem d_Md_drift_180 : decode m_Md_drift.2.1 180 = .ok (.goto 17, 3) := by decide +kernel
abbrev m_Md_share : aw_MI := (⟨"MaypoleGreenModel", "share", "(I)Z"⟩, prog_14_method_129_code, 2, some .boolean)
theorem k_Md_share : aw_K m_Md_share 1 := ⟨aw_in 1927 (by decide +kernel) rfl, aw_in 16 (by decide +kernel) rfl, ⟨by decide, by decide, by decide +kernel⟩, by decide, by decide +kernel⟩
theorem d_Md_share_0 : decode m_Md_share.2.1 0 = .ok (.aload_n 0, 1) := by decide +kernel
theorem d_Md_share_1 : decode m_Md_share.2.1 1 = .ok (.iload_n 1, 1) := by decide +kernel
theorem d_Md_share_2 : decode m_Md_share.2.1 2 = .ok (.invokevirtual 313, 3) := by decide +kernel
theorem d_Md_share_5 : decode m_Md_share.2.1 5 = .ok (.ifCond .ne 9, 3) := by decide +kernel
theorem d_Md_share_14 : decode m_Md_share.2.1 14 = .ok (.aload_n 0, 1) := by decide +kernel
theorem d_Md_share_15 : decode m_Md_share.2.1 15 = .ok (.getfield 7, 3) := by decide +kernel
theorem d_Md_share_18 : decode m_Md_share.2.1 18 = .ok (.iconst 3, 1) := by decide +kernel
theorem d_Md_share_19 : decode m_Md_share.2.1 19 = .ok (.iaload, 1) := by decide +kernel
theorem d_Md_share_20 : decode m_Md_share.2.1 20 = .ok (.ifCond .ne 12, 3) := by decide +kernel
theorem d_Md_share_32 : decode m_Md_share.2.1 32 = .ok (.aload_n 0, 1) := by decide +kernel
theorem d_Md_share_33 : decode m_Md_share.2.1 33 = .ok (.aload_n 0, 1) := by decide +kernel
theorem d_Md_share_34 : decode m_Md_share.2.1 34 = .ok (.iload_n 1, 1) := by decide +kernel
theorem d_Md_share_35 : decode m_Md_share.2.1 35 = .ok (.iconst 2, 1) := by decide +kernel
theorem d_Md_share_36 : decode m_Md_share.2.1 36 = .ok (.invokevirtual 340, 3) := by decide +kernel
theorem d_Md_share_39 : decode m_Md_share.2.1 39 = .ok (.i2l, 1) := by decide +kernel
theorem d_Md_share_40 : decode m_Md_share.2.1 40 = .ok (.aload_n 0, 1) := by decide +kernel
theorem d_Md_share_41 : decode m_Md_share.2.1 41 = .ok (.getfield 7, 3) := by decide +kernel
theorem d_Md_share_44 : decode m_Md_share.2.1 44 = .ok (.iconst 3, 1) := by decide +kernel
theorem d_Md_share_45 : decode m_Md_share.2.1 45 = .ok (.iaload, 1) := by decide +kernel
theorem d_Md_share_46 : decode m_Md_share.2.1 46 = .ok (.i2l, 1) := by decide +kernel
theorem d_Md_share_47 : decode m_Md_share.2.1 47 = .ok (.invokevirtual 479, 3) := by decide +kernel
theorem d_Md_share_50 : decode m_Md_share.2.1 50 = .ok (.ireturn, 1) := by decide +kernel
theorem d_Md_share_23 : decode m_Md_share.2.1 23 = .ok (.aload_n 0, 1) := by decide +kernel
theorem d_Md_share_24 : decode m_Md_share.2.1 24 = .ok (.bipush 6, 2) := by decide +kernel
theorem d_Md_share_26 : decode m_Md_share.2.1 26 = .ok (.invokevirtual 125, 3) := by decide +kernel
theorem d_Md_share_29 : decode m_Md_share.2.1 29 = .ok (.goto 21, 3) := by decide +kernel
theorem d_Md_share_8 : decode m_Md_share.2.1 8 = .ok (.aload_n 0, 1) := by decide +kernel
theorem d_Md_share_9 : decode m_Md_share.2.1 9 = .ok (.iconst 1, 1) := by decide +kernel
theorem d_Md_share_10 : decode m_Md_share.2.1 10 = .ok (.invokevirtual 125, 3) := by decide +kernel
theorem d_Md_share_13 : decode m_Md_share.2.1 13 = .ok (.ireturn, 1) := by decide +kernel
abbrev m_Md_copyShows : aw_MI := (⟨"MaypoleGreenModel", "copyShows", "(I)I"⟩, prog_14_method_130_code, 3, some .int)
theorem k_Md_copyShows : aw_K m_Md_copyShows 1 := ⟨aw_in 1931 (by decide +kernel) rfl, aw_in 16 (by decide +kernel) rfl, ⟨by decide, by decide, by decide +kernel⟩, by decide, by decide +kernel⟩
theorem d_Md_copyShows_0 : decode m_Md_copyShows.2.1 0 = .ok (.iload_n 1, 1) := by decide +kernel
theorem d_Md_copyShows_1 : decode m_Md_copyShows.2.1 1 = .ok (.invokestatic 129, 3) := by decide +kernel
theorem d_Md_copyShows_4 : decode m_Md_copyShows.2.1 4 = .ok (.ifCond .ne 9, 3) := by decide +kernel
theorem d_Md_copyShows_13 : decode m_Md_copyShows.2.1 13 = .ok (.aload_n 0, 1) := by decide +kernel
theorem d_Md_copyShows_14 : decode m_Md_copyShows.2.1 14 = .ok (.getfield 24, 3) := by decide +kernel
theorem d_Md_copyShows_17 : decode m_Md_copyShows.2.1 17 = .ok (.iload_n 1, 1) := by decide +kernel
theorem d_Md_copyShows_18 : decode m_Md_copyShows.2.1 18 = .ok (.iaload, 1) := by decide +kernel
theorem d_Md_copyShows_19 : decode m_Md_copyShows.2.1 19 = .ok (.iconst (-1), 1) := by decide +kernel
theorem d_Md_copyShows_20 : decode m_Md_copyShows.2.1 20 = .ok (.if_icmp .ne 9, 3) := by decide +kernel
theorem d_Md_copyShows_29 : decode m_Md_copyShows.2.1 29 = .ok (.aload_n 0, 1) := by decide +kernel
theorem d_Md_copyShows_30 : decode m_Md_copyShows.2.1 30 = .ok (.getfield 24, 3) := by decide +kernel
theorem d_Md_copyShows_33 : decode m_Md_copyShows.2.1 33 = .ok (.iload_n 1, 1) := by decide +kernel
theorem d_Md_copyShows_34 : decode m_Md_copyShows.2.1 34 = .ok (.iaload, 1) := by decide +kernel
theorem d_Md_copyShows_35 : decode m_Md_copyShows.2.1 35 = .ok (.aload_n 0, 1) := by decide +kernel
theorem d_Md_copyShows_36 : decode m_Md_copyShows.2.1 36 = .ok (.iconst 0, 1) := by decide +kernel
theorem d_Md_copyShows_37 : decode m_Md_copyShows.2.1 37 = .ok (.invokevirtual 260, 3) := by decide +kernel
theorem d_Md_copyShows_40 : decode m_Md_copyShows.2.1 40 = .ok (.if_icmp .ge 9, 3) := by decide +kernel
theorem d_Md_copyShows_49 : decode m_Md_copyShows.2.1 49 = .ok (.iconst 0, 1) := by decide +kernel
theorem d_Md_copyShows_50 : decode m_Md_copyShows.2.1 50 = .ok (.istore_n 2, 1) := by decide +kernel
theorem d_Md_copyShows_43 : decode m_Md_copyShows.2.1 43 = .ok (.aload_n 0, 1) := by decide +kernel
theorem d_Md_copyShows_44 : decode m_Md_copyShows.2.1 44 = .ok (.iconst 3, 1) := by decide +kernel
theorem d_Md_copyShows_45 : decode m_Md_copyShows.2.1 45 = .ok (.invokevirtual 118, 3) := by decide +kernel
theorem d_Md_copyShows_48 : decode m_Md_copyShows.2.1 48 = .ok (.ireturn, 1) := by decide +kernel
theorem d_Md_copyShows_23 : decode m_Md_copyShows.2.1 23 = .ok (.aload_n 0, 1) := by decide +kernel
theorem d_Md_copyShows_24 : decode m_Md_copyShows.2.1 24 = .ok (.iconst 2, 1) := by decide +kernel
theorem d_Md_copyShows_25 : decode m_Md_copyShows.2.1 25 = .ok (.invokevirtual 118, 3) := by decide +kernel
theorem d_Md_copyShows_28 : decode m_Md_copyShows.2.1 28 = .ok (.ireturn, 1) := by decide +kernel
theorem d_Md_copyShows_7 : decode m_Md_copyShows.2.1 7 = .ok (.aload_n 0, 1) := by decide +kernel
theorem d_Md_copyShows_8 : decode m_Md_copyShows.2.1 8 = .ok (.iconst 1, 1) := by decide +kernel
theorem d_Md_copyShows_9 : decode m_Md_copyShows.2.1 9 = .ok (.invokevirtual 118, 3) := by decide +kernel
theorem d_Md_copyShows_12 : decode m_Md_copyShows.2.1 12 = .ok (.ireturn, 1) := by decide +kernel
theorem d_Md_copyShows_51 : decode m_Md_copyShows.2.1 51 = .ok (.iload_n 2, 1) := by decide +kernel
theorem d_Md_copyShows_52 : decode m_Md_copyShows.2.1 52 = .ok (.aload_n 0, 1) := by decide +kernel
theorem d_Md_copyShows_53 : decode m_Md_copyShows.2.1 53 = .ok (.iconst 0, 1) := by decide +kernel
theorem d_Md_copyShows_54 : decode m_Md_copyShows.2.1 54 = .ok (.invokevirtual 260, 3) := by decide +kernel
theorem d_Md_copyShows_57 : decode m_Md_copyShows.2.1 57 = .ok (.if_icmp .ge 35, 3) := by decide +kernel
theorem d_Md_copyShows_92 : decode m_Md_copyShows.2.1 92 = .ok (.aload_n 0, 1) := by decide +kernel
theorem d_Md_copyShows_93 : decode m_Md_copyShows.2.1 93 = .ok (.aload_n 0, 1) := by decide +kernel
theorem d_Md_copyShows_94 : decode m_Md_copyShows.2.1 94 = .ok (.iconst 0, 1) := by decide +kernel
theorem d_Md_copyShows_95 : decode m_Md_copyShows.2.1 95 = .ok (.invokevirtual 260, 3) := by decide +kernel
theorem d_Md_copyShows_98 : decode m_Md_copyShows.2.1 98 = .ok (.invokevirtual 122, 3) := by decide +kernel
theorem d_Md_copyShows_101 : decode m_Md_copyShows.2.1 101 = .ok (.ireturn, 1) := by decide +kernel
theorem d_Md_copyShows_60 : decode m_Md_copyShows.2.1 60 = .ok (.aload_n 0, 1) := by decide +kernel
theorem d_Md_copyShows_61 : decode m_Md_copyShows.2.1 61 = .ok (.getfield 27, 3) := by decide +kernel
theorem d_Md_copyShows_64 : decode m_Md_copyShows.2.1 64 = .ok (.bipush 60, 2) := by decide +kernel
theorem d_Md_copyShows_66 : decode m_Md_copyShows.2.1 66 = .ok (.iload_n 1, 1) := by decide +kernel
theorem d_Md_copyShows_67 : decode m_Md_copyShows.2.1 67 = .ok (.imul, 1) := by decide +kernel
theorem d_Md_copyShows_68 : decode m_Md_copyShows.2.1 68 = .ok (.iload_n 2, 1) := by decide +kernel
theorem d_Md_copyShows_69 : decode m_Md_copyShows.2.1 69 = .ok (.iadd, 1) := by decide +kernel
theorem d_Md_copyShows_70 : decode m_Md_copyShows.2.1 70 = .ok (.aload_n 0, 1) := by decide +kernel
theorem d_Md_copyShows_71 : decode m_Md_copyShows.2.1 71 = .ok (.iload_n 2, 1) := by decide +kernel
theorem d_Md_copyShows_72 : decode m_Md_copyShows.2.1 72 = .ok (.invokevirtual 319, 3) := by decide +kernel
theorem d_Md_copyShows_75 : decode m_Md_copyShows.2.1 75 = .ok (.i2l, 1) := by decide +kernel
theorem d_Md_copyShows_76 : decode m_Md_copyShows.2.1 76 = .ok (.aload_n 0, 1) := by decide +kernel
theorem d_Md_copyShows_77 : decode m_Md_copyShows.2.1 77 = .ok (.getfield 21, 3) := by decide +kernel
theorem d_Md_copyShows_80 : decode m_Md_copyShows.2.1 80 = .ok (.iload_n 1, 1) := by decide +kernel
theorem d_Md_copyShows_81 : decode m_Md_copyShows.2.1 81 = .ok (.iaload, 1) := by decide +kernel
theorem d_Md_copyShows_82 : decode m_Md_copyShows.2.1 82 = .ok (.invokestatic 136, 3) := by decide +kernel
theorem d_Md_copyShows_85 : decode m_Md_copyShows.2.1 85 = .ok (.lastore, 1) := by decide +kernel
theorem d_Md_copyShows_86 : decode m_Md_copyShows.2.1 86 = .ok (.iinc 2 1, 3) := by decide +kernel
theorem d_Md_copyShows_89 : decode m_Md_copyShows.2.1 89 = .ok (.goto (-38), 3) := by decide +kernel
abbrev m_Md_live : aw_MI := (⟨"MaypoleGreenModel", "live", "(I)I"⟩, prog_14_method_140_code, 3, some .int)
theorem k_Md_live : aw_K m_Md_live 1 := ⟨aw_in 1935 (by decide +kernel) rfl, aw_in 16 (by decide +kernel) rfl, ⟨by decide, by decide, by decide +kernel⟩, by decide, by decide +kernel⟩
theorem d_Md_live_0 : decode m_Md_live.2.1 0 = .ok (.iload_n 1, 1) := by decide +kernel
theorem d_Md_live_1 : decode m_Md_live.2.1 1 = .ok (.i2l, 1) := by decide +kernel
theorem d_Md_live_2 : decode m_Md_live.2.1 2 = .ok (.lconst 0, 1) := by decide +kernel
theorem d_Md_live_3 : decode m_Md_live.2.1 3 = .ok (.ldc2_w 514, 3) := by decide +kernel
theorem cl_Md_514 : Cond.constantLong "MaypoleGreenModel" 514 (9999) ∈ aw_T := aw_in 1936 (by decide +kernel) rfl
theorem d_Md_live_6 : decode m_Md_live.2.1 6 = .ok (.invokestatic 372, 3) := by decide +kernel
theorem d_Md_live_9 : decode m_Md_live.2.1 9 = .ok (.ifCond .ne 9, 3) := by decide +kernel
theorem d_Md_live_18 : decode m_Md_live.2.1 18 = .ok (.aload_n 0, 1) := by decide +kernel
theorem d_Md_live_19 : decode m_Md_live.2.1 19 = .ok (.getfield 7, 3) := by decide +kernel
theorem d_Md_live_22 : decode m_Md_live.2.1 22 = .ok (.iconst 5, 1) := by decide +kernel
theorem d_Md_live_23 : decode m_Md_live.2.1 23 = .ok (.iaload, 1) := by decide +kernel
theorem d_Md_live_24 : decode m_Md_live.2.1 24 = .ok (.iconst (-1), 1) := by decide +kernel
theorem d_Md_live_25 : decode m_Md_live.2.1 25 = .ok (.if_icmp .ne 10, 3) := by decide +kernel
theorem d_Md_live_35 : decode m_Md_live.2.1 35 = .ok (.aload_n 0, 1) := by decide +kernel
theorem d_Md_live_36 : decode m_Md_live.2.1 36 = .ok (.iload_n 1, 1) := by decide +kernel
theorem d_Md_live_37 : decode m_Md_live.2.1 37 = .ok (.invokevirtual 516, 3) := by decide +kernel
abbrev m_Md_lives : aw_MI := (⟨"MaypoleGreenModel", "lives", "(I)V"⟩, prog_14_method_139_code, 4, none)
theorem lk_Md_516 : Cond.methodLink "MaypoleGreenModel" 516 m_Md_lives.1 ∈ aw_T := aw_in 1937 (by decide +kernel) rfl
theorem k_Md_lives : aw_K m_Md_lives 1 := ⟨aw_in 1940 (by decide +kernel) rfl, aw_in 16 (by decide +kernel) rfl, ⟨by decide, by decide, by decide +kernel⟩, by decide, by decide +kernel⟩
theorem in_Md_lives : Cond.instanceMethod m_Md_lives.1 ∈ aw_T := aw_in 1939 (by decide +kernel) rfl
theorem se_Md_lives : Cond.selects m_Md_lives.1.cls m_Md_lives.1 m_Md_lives.1 ∈ aw_T := aw_inP 134 (by decide +kernel) rfl
theorem d_Md_live_40 : decode m_Md_live.2.1 40 = .ok (.iconst 0, 1) := by decide +kernel
theorem d_Md_live_41 : decode m_Md_live.2.1 41 = .ok (.istore_n 2, 1) := by decide +kernel
theorem d_Md_live_28 : decode m_Md_live.2.1 28 = .ok (.aload_n 0, 1) := by decide +kernel
theorem d_Md_live_29 : decode m_Md_live.2.1 29 = .ok (.bipush 6, 2) := by decide +kernel
theorem d_Md_live_31 : decode m_Md_live.2.1 31 = .ok (.invokevirtual 118, 3) := by decide +kernel
theorem d_Md_live_34 : decode m_Md_live.2.1 34 = .ok (.ireturn, 1) := by decide +kernel
theorem d_Md_live_12 : decode m_Md_live.2.1 12 = .ok (.aload_n 0, 1) := by decide +kernel
theorem d_Md_live_13 : decode m_Md_live.2.1 13 = .ok (.iconst 1, 1) := by decide +kernel
theorem d_Md_live_14 : decode m_Md_live.2.1 14 = .ok (.invokevirtual 118, 3) := by decide +kernel
theorem d_Md_live_17 : decode m_Md_live.2.1 17 = .ok (.ireturn, 1) := by decide +kernel
theorem d_Md_live_42 : decode m_Md_live.2.1 42 = .ok (.iload_n 2, 1) := by decide +kernel
theorem d_Md_live_43 : decode m_Md_live.2.1 43 = .ok (.iconst 5, 1) := by decide +kernel
theorem d_Md_live_44 : decode m_Md_live.2.1 44 = .ok (.if_icmp .ge 21, 3) := by decide +kernel
theorem d_Md_live_65 : decode m_Md_live.2.1 65 = .ok (.aload_n 0, 1) := by decide +kernel
theorem d_Md_live_66 : decode m_Md_live.2.1 66 = .ok (.iconst 1, 1) := by decide +kernel
theorem d_Md_live_67 : decode m_Md_live.2.1 67 = .ok (.putfield 519, 3) := by decide +kernel
theorem f_Md_519 : aw_F "MaypoleGreenModel" 519 11 50 false := ⟨cR11, cT11, 52, fun k => cY11.getD k .int, rfl, ci11, cy11, cn11, rfl, by decide, aw_in 1304 (by decide +kernel) rfl, rfl, rfl, rfl⟩
theorem d_Md_live_70 : decode m_Md_live.2.1 70 = .ok (.aload_n 0, 1) := by decide +kernel
theorem d_Md_live_71 : decode m_Md_live.2.1 71 = .ok (.aload_n 0, 1) := by decide +kernel
theorem d_Md_live_72 : decode m_Md_live.2.1 72 = .ok (.getfield 502, 3) := by decide +kernel
theorem f_Md_502 : aw_F "MaypoleGreenModel" 502 11 46 false := ⟨cR11, cT11, 52, fun k => cY11.getD k .int, rfl, ci11, cy11, cn11, rfl, by decide, aw_in 1300 (by decide +kernel) rfl, rfl, rfl, rfl⟩
theorem d_Md_live_75 : decode m_Md_live.2.1 75 = .ok (.invokevirtual 122, 3) := by decide +kernel
theorem d_Md_live_78 : decode m_Md_live.2.1 78 = .ok (.ireturn, 1) := by decide +kernel
theorem d_Md_live_47 : decode m_Md_live.2.1 47 = .ok (.aload_n 0, 1) := by decide +kernel
theorem d_Md_live_48 : decode m_Md_live.2.1 48 = .ok (.getfield 105, 3) := by decide +kernel
theorem f_Md_105 : aw_F "MaypoleGreenModel" 105 11 49 true := ⟨cR11, cT11, 52, fun k => cY11.getD k .int, rfl, ci11, cy11, cn11, rfl, by decide, aw_in 1303 (by decide +kernel) rfl, rfl, rfl, rfl⟩
theorem d_Md_live_51 : decode m_Md_live.2.1 51 = .ok (.iload_n 2, 1) := by decide +kernel
theorem d_Md_live_52 : decode m_Md_live.2.1 52 = .ok (.aload_n 0, 1) := by decide +kernel
theorem d_Md_live_53 : decode m_Md_live.2.1 53 = .ok (.getfield 102, 3) := by decide +kernel
theorem f_Md_102 : aw_F "MaypoleGreenModel" 102 11 48 true := ⟨cR11, cT11, 52, fun k => cY11.getD k .int, rfl, ci11, cy11, cn11, rfl, by decide, aw_in 1302 (by decide +kernel) rfl, rfl, rfl, rfl⟩
theorem d_Md_live_56 : decode m_Md_live.2.1 56 = .ok (.iload_n 2, 1) := by decide +kernel
theorem d_Md_live_57 : decode m_Md_live.2.1 57 = .ok (.iaload, 1) := by decide +kernel
theorem d_Md_live_58 : decode m_Md_live.2.1 58 = .ok (.iastore, 1) := by decide +kernel
theorem d_Md_live_59 : decode m_Md_live.2.1 59 = .ok (.iinc 2 1, 3) := by decide +kernel
theorem d_Md_live_62 : decode m_Md_live.2.1 62 = .ok (.goto (-20), 3) := by decide +kernel
theorem d_Md_lives_0 : decode m_Md_lives.2.1 0 = .ok (.aload_n 0, 1) := by decide +kernel
theorem d_Md_lives_1 : decode m_Md_lives.2.1 1 = .ok (.iload_n 1, 1) := by decide +kernel
theorem d_Md_lives_2 : decode m_Md_lives.2.1 2 = .ok (.putfield 483, 3) := by decide +kernel
theorem f_Md_483 : aw_F "MaypoleGreenModel" 483 11 45 false := ⟨cR11, cT11, 52, fun k => cY11.getD k .int, rfl, ci11, cy11, cn11, rfl, by decide, aw_in 1299 (by decide +kernel) rfl, rfl, rfl, rfl⟩
theorem d_Md_lives_5 : decode m_Md_lives.2.1 5 = .ok (.aload_n 0, 1) := by decide +kernel
theorem d_Md_lives_6 : decode m_Md_lives.2.1 6 = .ok (.iconst 0, 1) := by decide +kernel
theorem d_Md_lives_7 : decode m_Md_lives.2.1 7 = .ok (.putfield 502, 3) := by decide +kernel
theorem d_Md_lives_10 : decode m_Md_lives.2.1 10 = .ok (.iconst 0, 1) := by decide +kernel
theorem d_Md_lives_11 : decode m_Md_lives.2.1 11 = .ok (.istore_n 2, 1) := by decide +kernel
theorem d_Md_lives_12 : decode m_Md_lives.2.1 12 = .ok (.iload_n 2, 1) := by decide +kernel
theorem d_Md_lives_13 : decode m_Md_lives.2.1 13 = .ok (.iconst 5, 1) := by decide +kernel
theorem d_Md_lives_14 : decode m_Md_lives.2.1 14 = .ok (.if_icmp .ge 16, 3) := by decide +kernel
theorem d_Md_lives_30 : decode m_Md_lives.2.1 30 = .ok (.iconst 0, 1) := by decide +kernel
theorem d_Md_lives_31 : decode m_Md_lives.2.1 31 = .ok (.istore_n 2, 1) := by decide +kernel
theorem d_Md_lives_17 : decode m_Md_lives.2.1 17 = .ok (.aload_n 0, 1) := by decide +kernel
theorem d_Md_lives_18 : decode m_Md_lives.2.1 18 = .ok (.getfield 102, 3) := by decide +kernel
theorem d_Md_lives_21 : decode m_Md_lives.2.1 21 = .ok (.iload_n 2, 1) := by decide +kernel
theorem d_Md_lives_22 : decode m_Md_lives.2.1 22 = .ok (.iconst 0, 1) := by decide +kernel
theorem d_Md_lives_23 : decode m_Md_lives.2.1 23 = .ok (.iastore, 1) := by decide +kernel
theorem d_Md_lives_24 : decode m_Md_lives.2.1 24 = .ok (.iinc 2 1, 3) := by decide +kernel
theorem d_Md_lives_27 : decode m_Md_lives.2.1 27 = .ok (.goto (-15), 3) := by decide +kernel
theorem d_Md_lives_32 : decode m_Md_lives.2.1 32 = .ok (.iload_n 2, 1) := by decide +kernel
theorem d_Md_lives_33 : decode m_Md_lives.2.1 33 = .ok (.aload_n 0, 1) := by decide +kernel
theorem d_Md_lives_34 : decode m_Md_lives.2.1 34 = .ok (.getfield 7, 3) := by decide +kernel
theorem d_Md_lives_37 : decode m_Md_lives.2.1 37 = .ok (.iconst 5, 1) := by decide +kernel
theorem d_Md_lives_38 : decode m_Md_lives.2.1 38 = .ok (.iaload, 1) := by decide +kernel
theorem d_Md_lives_39 : decode m_Md_lives.2.1 39 = .ok (.if_icmp .ge 145, 3) := by decide +kernel
theorem d_Md_lives_184 : decode m_Md_lives.2.1 184 = .ok (.return_, 1) := by decide +kernel
theorem d_Md_lives_42 : decode m_Md_lives.2.1 42 = .ok (.aload_n 0, 1) := by decide +kernel
theorem d_Md_lives_43 : decode m_Md_lives.2.1 43 = .ok (.getfield 502, 3) := by decide +kernel
theorem d_Md_lives_46 : decode m_Md_lives.2.1 46 = .ok (.sipush 300, 3) := by decide +kernel
theorem d_Md_lives_49 : decode m_Md_lives.2.1 49 = .ok (.if_icmp .ne 11, 3) := by decide +kernel
theorem d_Md_lives_60 : decode m_Md_lives.2.1 60 = .ok (.sipush 184, 3) := by decide +kernel
theorem d_Md_lives_63 : decode m_Md_lives.2.1 63 = .ok (.bipush 6, 2) := by decide +kernel
theorem d_Md_lives_65 : decode m_Md_lives.2.1 65 = .ok (.iload_n 2, 1) := by decide +kernel
theorem d_Md_lives_66 : decode m_Md_lives.2.1 66 = .ok (.imul, 1) := by decide +kernel
theorem d_Md_lives_67 : decode m_Md_lives.2.1 67 = .ok (.iadd, 1) := by decide +kernel
theorem d_Md_lives_68 : decode m_Md_lives.2.1 68 = .ok (.istore_n 3, 1) := by decide +kernel
theorem d_Md_lives_69 : decode m_Md_lives.2.1 69 = .ok (.aload_n 0, 1) := by decide +kernel
theorem d_Md_lives_70 : decode m_Md_lives.2.1 70 = .ok (.dup, 1) := by decide +kernel
theorem d_Md_lives_71 : decode m_Md_lives.2.1 71 = .ok (.getfield 502, 3) := by decide +kernel
theorem d_Md_lives_74 : decode m_Md_lives.2.1 74 = .ok (.iconst 1, 1) := by decide +kernel
theorem d_Md_lives_75 : decode m_Md_lives.2.1 75 = .ok (.iadd, 1) := by decide +kernel
theorem d_Md_lives_76 : decode m_Md_lives.2.1 76 = .ok (.putfield 502, 3) := by decide +kernel
theorem d_Md_lives_79 : decode m_Md_lives.2.1 79 = .ok (.aload_n 0, 1) := by decide +kernel
theorem d_Md_lives_80 : decode m_Md_lives.2.1 80 = .ok (.getfield 7, 3) := by decide +kernel
theorem d_Md_lives_83 : decode m_Md_lives.2.1 83 = .ok (.iload_n 3, 1) := by decide +kernel
theorem d_Md_lives_84 : decode m_Md_lives.2.1 84 = .ok (.iaload, 1) := by decide +kernel
theorem d_Md_lives_85 : decode m_Md_lives.2.1 85 = .ok (.bipush 14, 2) := by decide +kernel
theorem d_Md_lives_87 : decode m_Md_lives.2.1 87 = .ok (.if_icmp .ne 4, 3) := by decide +kernel
theorem d_Md_lives_91 : decode m_Md_lives.2.1 91 = .ok (.aload_n 0, 1) := by decide +kernel
theorem d_Md_lives_92 : decode m_Md_lives.2.1 92 = .ok (.getfield 102, 3) := by decide +kernel
theorem d_Md_lives_95 : decode m_Md_lives.2.1 95 = .ok (.iconst 0, 1) := by decide +kernel
theorem d_Md_lives_96 : decode m_Md_lives.2.1 96 = .ok (.dup2, 1) := by decide +kernel
theorem d_Md_lives_97 : decode m_Md_lives.2.1 97 = .ok (.iaload, 1) := by decide +kernel
theorem d_Md_lives_98 : decode m_Md_lives.2.1 98 = .ok (.aload_n 0, 1) := by decide +kernel
theorem d_Md_lives_99 : decode m_Md_lives.2.1 99 = .ok (.iload_n 3, 1) := by decide +kernel
theorem d_Md_lives_100 : decode m_Md_lives.2.1 100 = .ok (.invokevirtual 505, 3) := by decide +kernel
abbrev m_Md_does : aw_MI := (⟨"MaypoleGreenModel", "does", "(I)Z"⟩, prog_14_method_136_code, 2, some .boolean)
theorem lk_Md_505 : Cond.methodLink "MaypoleGreenModel" 505 m_Md_does.1 ∈ aw_T := aw_in 1941 (by decide +kernel) rfl
theorem k_Md_does : aw_K m_Md_does 1 := ⟨aw_in 1944 (by decide +kernel) rfl, aw_in 16 (by decide +kernel) rfl, ⟨by decide, by decide, by decide +kernel⟩, by decide, by decide +kernel⟩
theorem in_Md_does : Cond.instanceMethod m_Md_does.1 ∈ aw_T := aw_in 1943 (by decide +kernel) rfl
theorem se_Md_does : Cond.selects m_Md_does.1.cls m_Md_does.1 m_Md_does.1 ∈ aw_T := aw_inP 135 (by decide +kernel) rfl
theorem d_Md_lives_103 : decode m_Md_lives.2.1 103 = .ok (.ifCond .eq 7, 3) := by decide +kernel
theorem d_Md_lives_110 : decode m_Md_lives.2.1 110 = .ok (.iconst 1, 1) := by decide +kernel
theorem d_Md_lives_111 : decode m_Md_lives.2.1 111 = .ok (.iadd, 1) := by decide +kernel
theorem d_Md_lives_112 : decode m_Md_lives.2.1 112 = .ok (.iastore, 1) := by decide +kernel
theorem d_Md_lives_113 : decode m_Md_lives.2.1 113 = .ok (.aload_n 0, 1) := by decide +kernel
theorem d_Md_lives_114 : decode m_Md_lives.2.1 114 = .ok (.getfield 7, 3) := by decide +kernel
theorem d_Md_lives_117 : decode m_Md_lives.2.1 117 = .ok (.iload_n 3, 1) := by decide +kernel
theorem d_Md_lives_118 : decode m_Md_lives.2.1 118 = .ok (.iaload, 1) := by decide +kernel
theorem d_Md_lives_119 : decode m_Md_lives.2.1 119 = .ok (.bipush 12, 2) := by decide +kernel
theorem d_Md_lives_121 : decode m_Md_lives.2.1 121 = .ok (.if_icmp .ne 19, 3) := by decide +kernel
theorem d_Md_lives_140 : decode m_Md_lives.2.1 140 = .ok (.aload_n 0, 1) := by decide +kernel
theorem d_Md_lives_141 : decode m_Md_lives.2.1 141 = .ok (.aload_n 0, 1) := by decide +kernel
theorem d_Md_lives_142 : decode m_Md_lives.2.1 142 = .ok (.getfield 7, 3) := by decide +kernel
theorem d_Md_lives_145 : decode m_Md_lives.2.1 145 = .ok (.iload_n 3, 1) := by decide +kernel
theorem d_Md_lives_146 : decode m_Md_lives.2.1 146 = .ok (.iaload, 1) := by decide +kernel
theorem d_Md_lives_147 : decode m_Md_lives.2.1 147 = .ok (.sipush 1100, 3) := by decide +kernel
theorem d_Md_lives_150 : decode m_Md_lives.2.1 150 = .ok (.if_icmp .lt 24, 3) := by decide +kernel
theorem d_Md_lives_174 : decode m_Md_lives.2.1 174 = .ok (.iload_n 2, 1) := by decide +kernel
theorem d_Md_lives_175 : decode m_Md_lives.2.1 175 = .ok (.iconst 1, 1) := by decide +kernel
theorem d_Md_lives_176 : decode m_Md_lives.2.1 176 = .ok (.iadd, 1) := by decide +kernel
theorem d_Md_lives_177 : decode m_Md_lives.2.1 177 = .ok (.invokevirtual 511, 3) := by decide +kernel
abbrev m_Md_behindEnds : aw_MI := (⟨"MaypoleGreenModel", "behindEnds", "(I)I"⟩, prog_14_method_138_code, 5, some .int)
theorem lk_Md_511 : Cond.methodLink "MaypoleGreenModel" 511 m_Md_behindEnds.1 ∈ aw_T := aw_in 1970 (by decide +kernel) rfl
theorem k_Md_behindEnds : aw_K m_Md_behindEnds 1 := ⟨aw_in 1973 (by decide +kernel) rfl, aw_in 16 (by decide +kernel) rfl, ⟨by decide, by decide, by decide +kernel⟩, by decide, by decide +kernel⟩
theorem in_Md_behindEnds : Cond.instanceMethod m_Md_behindEnds.1 ∈ aw_T := aw_in 1972 (by decide +kernel) rfl
theorem se_Md_behindEnds : Cond.selects m_Md_behindEnds.1.cls m_Md_behindEnds.1 m_Md_behindEnds.1 ∈ aw_T := aw_inP 142 (by decide +kernel) rfl
theorem d_Md_lives_180 : decode m_Md_lives.2.1 180 = .ok (.istore_n 2, 1) := by decide +kernel
theorem d_Md_lives_181 : decode m_Md_lives.2.1 181 = .ok (.goto (-149), 3) := by decide +kernel
theorem d_Md_lives_153 : decode m_Md_lives.2.1 153 = .ok (.aload_n 0, 1) := by decide +kernel
theorem d_Md_lives_154 : decode m_Md_lives.2.1 154 = .ok (.iload_n 3, 1) := by decide +kernel
theorem d_Md_lives_155 : decode m_Md_lives.2.1 155 = .ok (.invokevirtual 508, 3) := by decide +kernel
abbrev m_Md_holds : aw_MI := (⟨"MaypoleGreenModel", "holds", "(I)Z"⟩, prog_14_method_137_code, 4, some .boolean)
theorem lk_Md_508 : Cond.methodLink "MaypoleGreenModel" 508 m_Md_holds.1 ∈ aw_T := aw_in 1966 (by decide +kernel) rfl
theorem k_Md_holds : aw_K m_Md_holds 1 := ⟨aw_in 1969 (by decide +kernel) rfl, aw_in 16 (by decide +kernel) rfl, ⟨by decide, by decide, by decide +kernel⟩, by decide, by decide +kernel⟩
theorem in_Md_holds : Cond.instanceMethod m_Md_holds.1 ∈ aw_T := aw_in 1968 (by decide +kernel) rfl
theorem se_Md_holds : Cond.selects m_Md_holds.1.cls m_Md_holds.1 m_Md_holds.1 ∈ aw_T := aw_inP 141 (by decide +kernel) rfl
theorem d_Md_lives_158 : decode m_Md_lives.2.1 158 = .ok (.ifCond .ne 16, 3) := by decide +kernel
theorem d_Md_lives_161 : decode m_Md_lives.2.1 161 = .ok (.aload_n 0, 1) := by decide +kernel
theorem d_Md_lives_162 : decode m_Md_lives.2.1 162 = .ok (.getfield 7, 3) := by decide +kernel
theorem d_Md_lives_165 : decode m_Md_lives.2.1 165 = .ok (.iload_n 3, 1) := by decide +kernel
theorem d_Md_lives_166 : decode m_Md_lives.2.1 166 = .ok (.iconst 4, 1) := by decide +kernel
theorem d_Md_lives_167 : decode m_Md_lives.2.1 167 = .ok (.iadd, 1) := by decide +kernel
theorem d_Md_lives_168 : decode m_Md_lives.2.1 168 = .ok (.iaload, 1) := by decide +kernel
theorem d_Md_lives_169 : decode m_Md_lives.2.1 169 = .ok (.iconst 1, 1) := by decide +kernel
theorem d_Md_lives_170 : decode m_Md_lives.2.1 170 = .ok (.iadd, 1) := by decide +kernel
theorem d_Md_lives_171 : decode m_Md_lives.2.1 171 = .ok (.goto 6, 3) := by decide +kernel
theorem d_Md_lives_124 : decode m_Md_lives.2.1 124 = .ok (.aload_n 0, 1) := by decide +kernel
theorem d_Md_lives_125 : decode m_Md_lives.2.1 125 = .ok (.getfield 99, 3) := by decide +kernel
theorem f_Md_99 : aw_F "MaypoleGreenModel" 99 11 47 true := ⟨cR11, cT11, 52, fun k => cY11.getD k .int, rfl, ci11, cy11, cn11, rfl, by decide, aw_in 1301 (by decide +kernel) rfl, rfl, rfl, rfl⟩
theorem d_Md_lives_128 : decode m_Md_lives.2.1 128 = .ok (.iload_n 2, 1) := by decide +kernel
theorem d_Md_lives_129 : decode m_Md_lives.2.1 129 = .ok (.aload_n 0, 1) := by decide +kernel
theorem d_Md_lives_130 : decode m_Md_lives.2.1 130 = .ok (.getfield 7, 3) := by decide +kernel
theorem d_Md_lives_133 : decode m_Md_lives.2.1 133 = .ok (.iload_n 3, 1) := by decide +kernel
theorem d_Md_lives_134 : decode m_Md_lives.2.1 134 = .ok (.iconst 1, 1) := by decide +kernel
theorem d_Md_lives_135 : decode m_Md_lives.2.1 135 = .ok (.iadd, 1) := by decide +kernel
theorem d_Md_lives_136 : decode m_Md_lives.2.1 136 = .ok (.iaload, 1) := by decide +kernel
theorem d_Md_lives_137 : decode m_Md_lives.2.1 137 = .ok (.iconst 1, 1) := by decide +kernel
theorem d_Md_lives_138 : decode m_Md_lives.2.1 138 = .ok (.isub, 1) := by decide +kernel
theorem d_Md_lives_139 : decode m_Md_lives.2.1 139 = .ok (.iastore, 1) := by decide +kernel
theorem d_Md_lives_106 : decode m_Md_lives.2.1 106 = .ok (.iconst 0, 1) := by decide +kernel
theorem d_Md_lives_107 : decode m_Md_lives.2.1 107 = .ok (.goto 4, 3) := by decide +kernel
theorem d_Md_lives_90 : decode m_Md_lives.2.1 90 = .ok (.return_, 1) := by decide +kernel
theorem d_Md_lives_52 : decode m_Md_lives.2.1 52 = .ok (.aload_n 0, 1) := by decide +kernel
theorem d_Md_lives_53 : decode m_Md_lives.2.1 53 = .ok (.getfield 102, 3) := by decide +kernel
theorem d_Md_lives_56 : decode m_Md_lives.2.1 56 = .ok (.iconst 4, 1) := by decide +kernel
theorem d_Md_lives_57 : decode m_Md_lives.2.1 57 = .ok (.iconst 1, 1) := by decide +kernel
theorem d_Md_lives_58 : decode m_Md_lives.2.1 58 = .ok (.iastore, 1) := by decide +kernel
theorem d_Md_lives_59 : decode m_Md_lives.2.1 59 = .ok (.return_, 1) := by decide +kernel
