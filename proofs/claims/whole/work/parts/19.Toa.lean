abbrev m_To_begin : aw_MI := (⟨"MaypoleGreen$Tokens", "begin", "([BI)V"⟩, prog_11_method_2_code, 3, none)
theorem k_To_begin : aw_K m_To_begin 2 := ⟨aw_in 584 (by decide +kernel) rfl, aw_in 7 (by decide +kernel) rfl, ⟨by decide, by decide, by decide +kernel⟩, by decide, by decide +kernel⟩
theorem d_To_begin_0 : decode m_To_begin.2.1 0 = .ok (.aload_n 0, 1) := by decide +kernel
theorem d_To_begin_1 : decode m_To_begin.2.1 1 = .ok (.aload_n 1, 1) := by decide +kernel
theorem d_To_begin_2 : decode m_To_begin.2.1 2 = .ok (.putfield 27, 3) := by decide +kernel
theorem f_To_27 : aw_F "MaypoleGreen$Tokens" 27 6 6 false := ⟨cR6, cT6, 11, fun k => cY6.getD k .int, rfl, ci6, cy6, cn6, rfl, by decide, aw_in 259 (by decide +kernel) rfl, rfl, rfl, rfl⟩
theorem d_To_begin_5 : decode m_To_begin.2.1 5 = .ok (.aload_n 0, 1) := by decide +kernel
theorem d_To_begin_6 : decode m_To_begin.2.1 6 = .ok (.iload_n 2, 1) := by decide +kernel
theorem d_To_begin_7 : decode m_To_begin.2.1 7 = .ok (.putfield 31, 3) := by decide +kernel
theorem f_To_31 : aw_F "MaypoleGreen$Tokens" 31 6 7 false := ⟨cR6, cT6, 11, fun k => cY6.getD k .int, rfl, ci6, cy6, cn6, rfl, by decide, aw_in 260 (by decide +kernel) rfl, rfl, rfl, rfl⟩
theorem d_To_begin_10 : decode m_To_begin.2.1 10 = .ok (.aload_n 0, 1) := by decide +kernel
theorem d_To_begin_11 : decode m_To_begin.2.1 11 = .ok (.iconst 0, 1) := by decide +kernel
theorem d_To_begin_12 : decode m_To_begin.2.1 12 = .ok (.putfield 34, 3) := by decide +kernel
theorem f_To_34 : aw_F "MaypoleGreen$Tokens" 34 6 9 false := ⟨cR6, cT6, 11, fun k => cY6.getD k .int, rfl, ci6, cy6, cn6, rfl, by decide, aw_in 262 (by decide +kernel) rfl, rfl, rfl, rfl⟩
theorem d_To_begin_15 : decode m_To_begin.2.1 15 = .ok (.aload_n 0, 1) := by decide +kernel
theorem d_To_begin_16 : decode m_To_begin.2.1 16 = .ok (.iconst 0, 1) := by decide +kernel
theorem d_To_begin_17 : decode m_To_begin.2.1 17 = .ok (.putfield 37, 3) := by decide +kernel
theorem f_To_37 : aw_F "MaypoleGreen$Tokens" 37 6 0 false := ⟨cR6, cT6, 11, fun k => cY6.getD k .int, rfl, ci6, cy6, cn6, rfl, by decide, aw_in 248 (by decide +kernel) rfl, rfl, rfl, rfl⟩
theorem d_To_begin_20 : decode m_To_begin.2.1 20 = .ok (.aload_n 0, 1) := by decide +kernel
theorem d_To_begin_21 : decode m_To_begin.2.1 21 = .ok (.iconst (-1), 1) := by decide +kernel
theorem d_To_begin_22 : decode m_To_begin.2.1 22 = .ok (.putfield 40, 3) := by decide +kernel
theorem f_To_40 : aw_F "MaypoleGreen$Tokens" 40 6 1 false := ⟨cR6, cT6, 11, fun k => cY6.getD k .int, rfl, ci6, cy6, cn6, rfl, by decide, aw_in 250 (by decide +kernel) rfl, rfl, rfl, rfl⟩
theorem d_To_begin_25 : decode m_To_begin.2.1 25 = .ok (.aload_n 0, 1) := by decide +kernel
theorem d_To_begin_26 : decode m_To_begin.2.1 26 = .ok (.invokevirtual 43, 3) := by decide +kernel
abbrev m_To_advance : aw_MI := (⟨"MaypoleGreen$Tokens", "advance", "()V"⟩, prog_11_method_3_code, 1, none)
theorem lk_To_43 : Cond.methodLink "MaypoleGreen$Tokens" 43 m_To_advance.1 ∈ aw_T := aw_in 585 (by decide +kernel) rfl
theorem k_To_advance : aw_K m_To_advance 0 := ⟨aw_in 588 (by decide +kernel) rfl, aw_in 7 (by decide +kernel) rfl, ⟨by decide, by decide, by decide +kernel⟩, by decide, by decide +kernel⟩
theorem in_To_advance : Cond.instanceMethod m_To_advance.1 ∈ aw_T := aw_in 586 (by decide +kernel) rfl
theorem se_To_advance : Cond.selects m_To_advance.1.cls m_To_advance.1 m_To_advance.1 ∈ aw_T := aw_in 587 (by decide +kernel) rfl
theorem d_To_begin_29 : decode m_To_begin.2.1 29 = .ok (.return_, 1) := by decide +kernel
theorem d_To_advance_0 : decode m_To_advance.2.1 0 = .ok (.aload_n 0, 1) := by decide +kernel
theorem d_To_advance_1 : decode m_To_advance.2.1 1 = .ok (.getfield 34, 3) := by decide +kernel
theorem d_To_advance_4 : decode m_To_advance.2.1 4 = .ok (.aload_n 0, 1) := by decide +kernel
theorem d_To_advance_5 : decode m_To_advance.2.1 5 = .ok (.getfield 31, 3) := by decide +kernel
theorem d_To_advance_8 : decode m_To_advance.2.1 8 = .ok (.if_icmp .ge 44, 3) := by decide +kernel
theorem d_To_advance_11 : decode m_To_advance.2.1 11 = .ok (.aload_n 0, 1) := by decide +kernel
theorem d_To_advance_12 : decode m_To_advance.2.1 12 = .ok (.getfield 27, 3) := by decide +kernel
theorem d_To_advance_15 : decode m_To_advance.2.1 15 = .ok (.aload_n 0, 1) := by decide +kernel
theorem d_To_advance_16 : decode m_To_advance.2.1 16 = .ok (.getfield 34, 3) := by decide +kernel
theorem d_To_advance_19 : decode m_To_advance.2.1 19 = .ok (.baload, 1) := by decide +kernel
theorem d_To_advance_20 : decode m_To_advance.2.1 20 = .ok (.bipush 10, 2) := by decide +kernel
theorem d_To_advance_22 : decode m_To_advance.2.1 22 = .ok (.if_icmp .eq 17, 3) := by decide +kernel
theorem d_To_advance_39 : decode m_To_advance.2.1 39 = .ok (.aload_n 0, 1) := by decide +kernel
theorem d_To_advance_40 : decode m_To_advance.2.1 40 = .ok (.dup, 1) := by decide +kernel
theorem d_To_advance_41 : decode m_To_advance.2.1 41 = .ok (.getfield 34, 3) := by decide +kernel
theorem d_To_advance_44 : decode m_To_advance.2.1 44 = .ok (.iconst 1, 1) := by decide +kernel
theorem d_To_advance_45 : decode m_To_advance.2.1 45 = .ok (.iadd, 1) := by decide +kernel
theorem d_To_advance_46 : decode m_To_advance.2.1 46 = .ok (.putfield 34, 3) := by decide +kernel
theorem d_To_advance_49 : decode m_To_advance.2.1 49 = .ok (.goto (-49), 3) := by decide +kernel
theorem d_To_advance_25 : decode m_To_advance.2.1 25 = .ok (.aload_n 0, 1) := by decide +kernel
theorem d_To_advance_26 : decode m_To_advance.2.1 26 = .ok (.getfield 27, 3) := by decide +kernel
theorem d_To_advance_29 : decode m_To_advance.2.1 29 = .ok (.aload_n 0, 1) := by decide +kernel
theorem d_To_advance_30 : decode m_To_advance.2.1 30 = .ok (.getfield 34, 3) := by decide +kernel
theorem d_To_advance_33 : decode m_To_advance.2.1 33 = .ok (.baload, 1) := by decide +kernel
theorem d_To_advance_34 : decode m_To_advance.2.1 34 = .ok (.bipush 32, 2) := by decide +kernel
theorem d_To_advance_36 : decode m_To_advance.2.1 36 = .ok (.if_icmp .ne 16, 3) := by decide +kernel
theorem d_To_advance_52 : decode m_To_advance.2.1 52 = .ok (.aload_n 0, 1) := by decide +kernel
theorem d_To_advance_53 : decode m_To_advance.2.1 53 = .ok (.aload_n 0, 1) := by decide +kernel
theorem d_To_advance_54 : decode m_To_advance.2.1 54 = .ok (.getfield 34, 3) := by decide +kernel
theorem d_To_advance_57 : decode m_To_advance.2.1 57 = .ok (.putfield 46, 3) := by decide +kernel
theorem f_To_46 : aw_F "MaypoleGreen$Tokens" 46 6 8 false := ⟨cR6, cT6, 11, fun k => cY6.getD k .int, rfl, ci6, cy6, cn6, rfl, by decide, aw_in 261 (by decide +kernel) rfl, rfl, rfl, rfl⟩
theorem d_To_advance_60 : decode m_To_advance.2.1 60 = .ok (.aload_n 0, 1) := by decide +kernel
theorem d_To_advance_61 : decode m_To_advance.2.1 61 = .ok (.getfield 34, 3) := by decide +kernel
theorem d_To_advance_64 : decode m_To_advance.2.1 64 = .ok (.aload_n 0, 1) := by decide +kernel
theorem d_To_advance_65 : decode m_To_advance.2.1 65 = .ok (.getfield 31, 3) := by decide +kernel
theorem d_To_advance_68 : decode m_To_advance.2.1 68 = .ok (.if_icmp .lt 11, 3) := by decide +kernel
theorem d_To_advance_79 : decode m_To_advance.2.1 79 = .ok (.aload_n 0, 1) := by decide +kernel
theorem d_To_advance_80 : decode m_To_advance.2.1 80 = .ok (.getfield 27, 3) := by decide +kernel
theorem d_To_advance_83 : decode m_To_advance.2.1 83 = .ok (.aload_n 0, 1) := by decide +kernel
theorem d_To_advance_84 : decode m_To_advance.2.1 84 = .ok (.getfield 34, 3) := by decide +kernel
theorem d_To_advance_87 : decode m_To_advance.2.1 87 = .ok (.baload, 1) := by decide +kernel
theorem d_To_advance_88 : decode m_To_advance.2.1 88 = .ok (.bipush 97, 2) := by decide +kernel
theorem d_To_advance_90 : decode m_To_advance.2.1 90 = .ok (.if_icmp .lt 24, 3) := by decide +kernel
theorem d_To_advance_93 : decode m_To_advance.2.1 93 = .ok (.aload_n 0, 1) := by decide +kernel
theorem d_To_advance_94 : decode m_To_advance.2.1 94 = .ok (.getfield 27, 3) := by decide +kernel
theorem d_To_advance_97 : decode m_To_advance.2.1 97 = .ok (.aload_n 0, 1) := by decide +kernel
theorem d_To_advance_98 : decode m_To_advance.2.1 98 = .ok (.getfield 34, 3) := by decide +kernel
theorem d_To_advance_101 : decode m_To_advance.2.1 101 = .ok (.baload, 1) := by decide +kernel
theorem d_To_advance_102 : decode m_To_advance.2.1 102 = .ok (.bipush 122, 2) := by decide +kernel
theorem d_To_advance_104 : decode m_To_advance.2.1 104 = .ok (.if_icmp .gt 10, 3) := by decide +kernel
theorem d_To_advance_107 : decode m_To_advance.2.1 107 = .ok (.aload_n 0, 1) := by decide +kernel
theorem d_To_advance_108 : decode m_To_advance.2.1 108 = .ok (.invokevirtual 52, 3) := by decide +kernel
abbrev m_To_advanceWord : aw_MI := (⟨"MaypoleGreen$Tokens", "advanceWord", "()V"⟩, prog_11_method_4_code, 1, none)
theorem lk_To_52 : Cond.methodLink "MaypoleGreen$Tokens" 52 m_To_advanceWord.1 ∈ aw_T := aw_in 589 (by decide +kernel) rfl
theorem k_To_advanceWord : aw_K m_To_advanceWord 0 := ⟨aw_in 592 (by decide +kernel) rfl, aw_in 7 (by decide +kernel) rfl, ⟨by decide, by decide, by decide +kernel⟩, by decide, by decide +kernel⟩
theorem in_To_advanceWord : Cond.instanceMethod m_To_advanceWord.1 ∈ aw_T := aw_in 591 (by decide +kernel) rfl
theorem se_To_advanceWord : Cond.selects m_To_advanceWord.1.cls m_To_advanceWord.1 m_To_advanceWord.1 ∈ aw_T := aw_inP 6 (by decide +kernel) rfl
theorem d_To_advance_111 : decode m_To_advance.2.1 111 = .ok (.goto 106, 3) := by decide +kernel
theorem d_To_advance_217 : decode m_To_advance.2.1 217 = .ok (.return_, 1) := by decide +kernel
theorem d_To_advance_71 : decode m_To_advance.2.1 71 = .ok (.aload_n 0, 1) := by decide +kernel
theorem d_To_advance_72 : decode m_To_advance.2.1 72 = .ok (.iconst 0, 1) := by decide +kernel
theorem d_To_advance_73 : decode m_To_advance.2.1 73 = .ok (.putfield 49, 3) := by decide +kernel
theorem f_To_49 : aw_F "MaypoleGreen$Tokens" 49 6 2 false := ⟨cR6, cT6, 11, fun k => cY6.getD k .int, rfl, ci6, cy6, cn6, rfl, by decide, aw_in 253 (by decide +kernel) rfl, rfl, rfl, rfl⟩
theorem d_To_advance_76 : decode m_To_advance.2.1 76 = .ok (.goto 141, 3) := by decide +kernel
theorem d_To_advance_114 : decode m_To_advance.2.1 114 = .ok (.aload_n 0, 1) := by decide +kernel
theorem d_To_advance_115 : decode m_To_advance.2.1 115 = .ok (.getfield 27, 3) := by decide +kernel
theorem d_To_advance_118 : decode m_To_advance.2.1 118 = .ok (.aload_n 0, 1) := by decide +kernel
theorem d_To_advance_119 : decode m_To_advance.2.1 119 = .ok (.getfield 34, 3) := by decide +kernel
theorem d_To_advance_122 : decode m_To_advance.2.1 122 = .ok (.baload, 1) := by decide +kernel
theorem d_To_advance_123 : decode m_To_advance.2.1 123 = .ok (.bipush 48, 2) := by decide +kernel
theorem d_To_advance_125 : decode m_To_advance.2.1 125 = .ok (.if_icmp .lt 24, 3) := by decide +kernel
theorem d_To_advance_128 : decode m_To_advance.2.1 128 = .ok (.aload_n 0, 1) := by decide +kernel
theorem d_To_advance_129 : decode m_To_advance.2.1 129 = .ok (.getfield 27, 3) := by decide +kernel
theorem d_To_advance_132 : decode m_To_advance.2.1 132 = .ok (.aload_n 0, 1) := by decide +kernel
theorem d_To_advance_133 : decode m_To_advance.2.1 133 = .ok (.getfield 34, 3) := by decide +kernel
theorem d_To_advance_136 : decode m_To_advance.2.1 136 = .ok (.baload, 1) := by decide +kernel
theorem d_To_advance_137 : decode m_To_advance.2.1 137 = .ok (.bipush 57, 2) := by decide +kernel
theorem d_To_advance_139 : decode m_To_advance.2.1 139 = .ok (.if_icmp .gt 10, 3) := by decide +kernel
theorem d_To_advance_142 : decode m_To_advance.2.1 142 = .ok (.aload_n 0, 1) := by decide +kernel
theorem d_To_advance_143 : decode m_To_advance.2.1 143 = .ok (.invokevirtual 55, 3) := by decide +kernel
abbrev m_To_advanceNumber : aw_MI := (⟨"MaypoleGreen$Tokens", "advanceNumber", "()V"⟩, prog_11_method_5_code, 1, none)
theorem lk_To_55 : Cond.methodLink "MaypoleGreen$Tokens" 55 m_To_advanceNumber.1 ∈ aw_T := aw_in 593 (by decide +kernel) rfl
theorem k_To_advanceNumber : aw_K m_To_advanceNumber 0 := ⟨aw_in 596 (by decide +kernel) rfl, aw_in 7 (by decide +kernel) rfl, ⟨by decide, by decide, by decide +kernel⟩, by decide, by decide +kernel⟩
theorem in_To_advanceNumber : Cond.instanceMethod m_To_advanceNumber.1 ∈ aw_T := aw_in 595 (by decide +kernel) rfl
theorem se_To_advanceNumber : Cond.selects m_To_advanceNumber.1.cls m_To_advanceNumber.1 m_To_advanceNumber.1 ∈ aw_T := aw_inP 7 (by decide +kernel) rfl
theorem d_To_advance_146 : decode m_To_advance.2.1 146 = .ok (.goto 71, 3) := by decide +kernel
theorem d_To_advance_149 : decode m_To_advance.2.1 149 = .ok (.aload_n 0, 1) := by decide +kernel
theorem d_To_advance_150 : decode m_To_advance.2.1 150 = .ok (.aload_n 0, 1) := by decide +kernel
theorem d_To_advance_151 : decode m_To_advance.2.1 151 = .ok (.getfield 27, 3) := by decide +kernel
theorem d_To_advance_154 : decode m_To_advance.2.1 154 = .ok (.aload_n 0, 1) := by decide +kernel
theorem d_To_advance_155 : decode m_To_advance.2.1 155 = .ok (.getfield 34, 3) := by decide +kernel
theorem d_To_advance_158 : decode m_To_advance.2.1 158 = .ok (.baload, 1) := by decide +kernel
theorem d_To_advance_159 : decode m_To_advance.2.1 159 = .ok (.putfield 58, 3) := by decide +kernel
theorem f_To_58 : aw_F "MaypoleGreen$Tokens" 58 6 5 false := ⟨cR6, cT6, 11, fun k => cY6.getD k .int, rfl, ci6, cy6, cn6, rfl, by decide, aw_in 257 (by decide +kernel) rfl, rfl, rfl, rfl⟩
theorem d_To_advance_162 : decode m_To_advance.2.1 162 = .ok (.aload_n 0, 1) := by decide +kernel
theorem d_To_advance_163 : decode m_To_advance.2.1 163 = .ok (.dup, 1) := by decide +kernel
theorem d_To_advance_164 : decode m_To_advance.2.1 164 = .ok (.getfield 34, 3) := by decide +kernel
theorem d_To_advance_167 : decode m_To_advance.2.1 167 = .ok (.iconst 1, 1) := by decide +kernel
theorem d_To_advance_168 : decode m_To_advance.2.1 168 = .ok (.iadd, 1) := by decide +kernel
theorem d_To_advance_169 : decode m_To_advance.2.1 169 = .ok (.putfield 34, 3) := by decide +kernel
theorem d_To_advance_172 : decode m_To_advance.2.1 172 = .ok (.aload_n 0, 1) := by decide +kernel
theorem d_To_advance_173 : decode m_To_advance.2.1 173 = .ok (.aload_n 0, 1) := by decide +kernel
theorem d_To_advance_174 : decode m_To_advance.2.1 174 = .ok (.getfield 58, 3) := by decide +kernel
theorem d_To_advance_177 : decode m_To_advance.2.1 177 = .ok (.bipush 59, 2) := by decide +kernel
theorem d_To_advance_179 : decode m_To_advance.2.1 179 = .ok (.if_icmp .eq 30, 3) := by decide +kernel
theorem d_To_advance_209 : decode m_To_advance.2.1 209 = .ok (.iconst 3, 1) := by decide +kernel
theorem d_To_advance_210 : decode m_To_advance.2.1 210 = .ok (.goto 4, 3) := by decide +kernel
theorem d_To_advance_214 : decode m_To_advance.2.1 214 = .ok (.putfield 49, 3) := by decide +kernel
theorem d_To_advance_182 : decode m_To_advance.2.1 182 = .ok (.aload_n 0, 1) := by decide +kernel
theorem d_To_advance_183 : decode m_To_advance.2.1 183 = .ok (.getfield 58, 3) := by decide +kernel
theorem d_To_advance_186 : decode m_To_advance.2.1 186 = .ok (.bipush 60, 2) := by decide +kernel
theorem d_To_advance_188 : decode m_To_advance.2.1 188 = .ok (.if_icmp .eq 21, 3) := by decide +kernel
theorem d_To_advance_191 : decode m_To_advance.2.1 191 = .ok (.aload_n 0, 1) := by decide +kernel
theorem d_To_advance_192 : decode m_To_advance.2.1 192 = .ok (.getfield 58, 3) := by decide +kernel
theorem d_To_advance_195 : decode m_To_advance.2.1 195 = .ok (.bipush 62, 2) := by decide +kernel
theorem d_To_advance_197 : decode m_To_advance.2.1 197 = .ok (.if_icmp .eq 12, 3) := by decide +kernel
theorem d_To_advance_200 : decode m_To_advance.2.1 200 = .ok (.aload_n 0, 1) := by decide +kernel
theorem d_To_advance_201 : decode m_To_advance.2.1 201 = .ok (.getfield 58, 3) := by decide +kernel
theorem d_To_advance_204 : decode m_To_advance.2.1 204 = .ok (.bipush 61, 2) := by decide +kernel
theorem d_To_advance_206 : decode m_To_advance.2.1 206 = .ok (.if_icmp .ne 7, 3) := by decide +kernel
theorem d_To_advance_213 : decode m_To_advance.2.1 213 = .ok (.iconst 4, 1) := by decide +kernel
theorem d_To_advanceWord_0 : decode m_To_advanceWord.2.1 0 = .ok (.aload_n 0, 1) := by decide +kernel
theorem d_To_advanceWord_1 : decode m_To_advanceWord.2.1 1 = .ok (.iconst 1, 1) := by decide +kernel
theorem d_To_advanceWord_2 : decode m_To_advanceWord.2.1 2 = .ok (.putfield 49, 3) := by decide +kernel
theorem d_To_advanceWord_5 : decode m_To_advanceWord.2.1 5 = .ok (.aload_n 0, 1) := by decide +kernel
theorem d_To_advanceWord_6 : decode m_To_advanceWord.2.1 6 = .ok (.lconst 0, 1) := by decide +kernel
theorem d_To_advanceWord_7 : decode m_To_advanceWord.2.1 7 = .ok (.putfield 61, 3) := by decide +kernel
theorem f_To_61 : aw_F "MaypoleGreen$Tokens" 61 6 3 false := ⟨cR6, cT6, 11, fun k => cY6.getD k .int, rfl, ci6, cy6, cn6, rfl, by decide, aw_in 254 (by decide +kernel) rfl, rfl, rfl, rfl⟩
theorem d_To_advanceWord_10 : decode m_To_advanceWord.2.1 10 = .ok (.aload_n 0, 1) := by decide +kernel
theorem d_To_advanceWord_11 : decode m_To_advanceWord.2.1 11 = .ok (.getfield 34, 3) := by decide +kernel
theorem d_To_advanceWord_14 : decode m_To_advanceWord.2.1 14 = .ok (.aload_n 0, 1) := by decide +kernel
theorem d_To_advanceWord_15 : decode m_To_advanceWord.2.1 15 = .ok (.getfield 31, 3) := by decide +kernel
theorem d_To_advanceWord_18 : decode m_To_advanceWord.2.1 18 = .ok (.if_icmp .ge 88, 3) := by decide +kernel
theorem d_To_advanceWord_106 : decode m_To_advanceWord.2.1 106 = .ok (.return_, 1) := by decide +kernel
theorem d_To_advanceWord_21 : decode m_To_advanceWord.2.1 21 = .ok (.aload_n 0, 1) := by decide +kernel
theorem d_To_advanceWord_22 : decode m_To_advanceWord.2.1 22 = .ok (.getfield 27, 3) := by decide +kernel
theorem d_To_advanceWord_25 : decode m_To_advanceWord.2.1 25 = .ok (.aload_n 0, 1) := by decide +kernel
theorem d_To_advanceWord_26 : decode m_To_advanceWord.2.1 26 = .ok (.getfield 34, 3) := by decide +kernel
theorem d_To_advanceWord_29 : decode m_To_advanceWord.2.1 29 = .ok (.baload, 1) := by decide +kernel
theorem d_To_advanceWord_30 : decode m_To_advanceWord.2.1 30 = .ok (.bipush 97, 2) := by decide +kernel
theorem d_To_advanceWord_32 : decode m_To_advanceWord.2.1 32 = .ok (.if_icmp .lt 74, 3) := by decide +kernel
theorem d_To_advanceWord_35 : decode m_To_advanceWord.2.1 35 = .ok (.aload_n 0, 1) := by decide +kernel
theorem d_To_advanceWord_36 : decode m_To_advanceWord.2.1 36 = .ok (.getfield 27, 3) := by decide +kernel
theorem d_To_advanceWord_39 : decode m_To_advanceWord.2.1 39 = .ok (.aload_n 0, 1) := by decide +kernel
theorem d_To_advanceWord_40 : decode m_To_advanceWord.2.1 40 = .ok (.getfield 34, 3) := by decide +kernel
theorem d_To_advanceWord_43 : decode m_To_advanceWord.2.1 43 = .ok (.baload, 1) := by decide +kernel
theorem d_To_advanceWord_44 : decode m_To_advanceWord.2.1 44 = .ok (.bipush 122, 2) := by decide +kernel
theorem d_To_advanceWord_46 : decode m_To_advanceWord.2.1 46 = .ok (.if_icmp .gt 60, 3) := by decide +kernel
theorem d_To_advanceWord_49 : decode m_To_advanceWord.2.1 49 = .ok (.aload_n 0, 1) := by decide +kernel
theorem d_To_advanceWord_50 : decode m_To_advanceWord.2.1 50 = .ok (.aload_n 0, 1) := by decide +kernel
theorem d_To_advanceWord_51 : decode m_To_advanceWord.2.1 51 = .ok (.getfield 34, 3) := by decide +kernel
theorem d_To_advanceWord_54 : decode m_To_advanceWord.2.1 54 = .ok (.aload_n 0, 1) := by decide +kernel
theorem d_To_advanceWord_55 : decode m_To_advanceWord.2.1 55 = .ok (.getfield 46, 3) := by decide +kernel
theorem d_To_advanceWord_58 : decode m_To_advanceWord.2.1 58 = .ok (.isub, 1) := by decide +kernel
theorem d_To_advanceWord_59 : decode m_To_advanceWord.2.1 59 = .ok (.bipush 8, 2) := by decide +kernel
theorem d_To_advanceWord_61 : decode m_To_advanceWord.2.1 61 = .ok (.if_icmp .ge 28, 3) := by decide +kernel
theorem d_To_advanceWord_89 : decode m_To_advanceWord.2.1 89 = .ok (.lconst 0, 1) := by decide +kernel
theorem d_To_advanceWord_90 : decode m_To_advanceWord.2.1 90 = .ok (.putfield 61, 3) := by decide +kernel
theorem d_To_advanceWord_93 : decode m_To_advanceWord.2.1 93 = .ok (.aload_n 0, 1) := by decide +kernel
theorem d_To_advanceWord_94 : decode m_To_advanceWord.2.1 94 = .ok (.dup, 1) := by decide +kernel
theorem d_To_advanceWord_95 : decode m_To_advanceWord.2.1 95 = .ok (.getfield 34, 3) := by decide +kernel
theorem d_To_advanceWord_98 : decode m_To_advanceWord.2.1 98 = .ok (.iconst 1, 1) := by decide +kernel
theorem d_To_advanceWord_99 : decode m_To_advanceWord.2.1 99 = .ok (.iadd, 1) := by decide +kernel
theorem d_To_advanceWord_100 : decode m_To_advanceWord.2.1 100 = .ok (.putfield 34, 3) := by decide +kernel
theorem d_To_advanceWord_103 : decode m_To_advanceWord.2.1 103 = .ok (.goto (-93), 3) := by decide +kernel
theorem d_To_advanceWord_64 : decode m_To_advanceWord.2.1 64 = .ok (.aload_n 0, 1) := by decide +kernel
theorem d_To_advanceWord_65 : decode m_To_advanceWord.2.1 65 = .ok (.getfield 61, 3) := by decide +kernel
theorem d_To_advanceWord_68 : decode m_To_advanceWord.2.1 68 = .ok (.iconst 5, 1) := by decide +kernel
theorem d_To_advanceWord_69 : decode m_To_advanceWord.2.1 69 = .ok (.lshl, 1) := by decide +kernel
theorem d_To_advanceWord_70 : decode m_To_advanceWord.2.1 70 = .ok (.aload_n 0, 1) := by decide +kernel
theorem d_To_advanceWord_71 : decode m_To_advanceWord.2.1 71 = .ok (.getfield 27, 3) := by decide +kernel
theorem d_To_advanceWord_74 : decode m_To_advanceWord.2.1 74 = .ok (.aload_n 0, 1) := by decide +kernel
theorem d_To_advanceWord_75 : decode m_To_advanceWord.2.1 75 = .ok (.getfield 34, 3) := by decide +kernel
theorem d_To_advanceWord_78 : decode m_To_advanceWord.2.1 78 = .ok (.baload, 1) := by decide +kernel
theorem d_To_advanceWord_79 : decode m_To_advanceWord.2.1 79 = .ok (.bipush 97, 2) := by decide +kernel
theorem d_To_advanceWord_81 : decode m_To_advanceWord.2.1 81 = .ok (.isub, 1) := by decide +kernel
theorem d_To_advanceWord_82 : decode m_To_advanceWord.2.1 82 = .ok (.iconst 1, 1) := by decide +kernel
theorem d_To_advanceWord_83 : decode m_To_advanceWord.2.1 83 = .ok (.iadd, 1) := by decide +kernel
theorem d_To_advanceWord_84 : decode m_To_advanceWord.2.1 84 = .ok (.i2l, 1) := by decide +kernel
theorem d_To_advanceWord_85 : decode m_To_advanceWord.2.1 85 = .ok (.lor, 1) := by decide +kernel
theorem d_To_advanceWord_86 : decode m_To_advanceWord.2.1 86 = .ok (.goto 4, 3) := by decide +kernel
theorem d_To_advanceNumber_0 : decode m_To_advanceNumber.2.1 0 = .ok (.aload_n 0, 1) := by decide +kernel
theorem d_To_advanceNumber_1 : decode m_To_advanceNumber.2.1 1 = .ok (.iconst 0, 1) := by decide +kernel
theorem d_To_advanceNumber_2 : decode m_To_advanceNumber.2.1 2 = .ok (.putfield 65, 3) := by decide +kernel
theorem f_To_65 : aw_F "MaypoleGreen$Tokens" 65 6 4 false := ⟨cR6, cT6, 11, fun k => cY6.getD k .int, rfl, ci6, cy6, cn6, rfl, by decide, aw_in 256 (by decide +kernel) rfl, rfl, rfl, rfl⟩
theorem d_To_advanceNumber_5 : decode m_To_advanceNumber.2.1 5 = .ok (.aload_n 0, 1) := by decide +kernel
theorem d_To_advanceNumber_6 : decode m_To_advanceNumber.2.1 6 = .ok (.getfield 34, 3) := by decide +kernel
theorem d_To_advanceNumber_9 : decode m_To_advanceNumber.2.1 9 = .ok (.aload_n 0, 1) := by decide +kernel
theorem d_To_advanceNumber_10 : decode m_To_advanceNumber.2.1 10 = .ok (.getfield 31, 3) := by decide +kernel
theorem d_To_advanceNumber_13 : decode m_To_advanceNumber.2.1 13 = .ok (.if_icmp .ge 85, 3) := by decide +kernel
theorem d_To_advanceNumber_98 : decode m_To_advanceNumber.2.1 98 = .ok (.aload_n 0, 1) := by decide +kernel
theorem d_To_advanceNumber_99 : decode m_To_advanceNumber.2.1 99 = .ok (.aload_n 0, 1) := by decide +kernel
theorem d_To_advanceNumber_100 : decode m_To_advanceNumber.2.1 100 = .ok (.getfield 34, 3) := by decide +kernel
theorem d_To_advanceNumber_103 : decode m_To_advanceNumber.2.1 103 = .ok (.aload_n 0, 1) := by decide +kernel
theorem d_To_advanceNumber_104 : decode m_To_advanceNumber.2.1 104 = .ok (.getfield 46, 3) := by decide +kernel
theorem d_To_advanceNumber_107 : decode m_To_advanceNumber.2.1 107 = .ok (.isub, 1) := by decide +kernel
theorem d_To_advanceNumber_108 : decode m_To_advanceNumber.2.1 108 = .ok (.iconst 4, 1) := by decide +kernel
theorem d_To_advanceNumber_109 : decode m_To_advanceNumber.2.1 109 = .ok (.if_icmp .le 7, 3) := by decide +kernel
theorem d_To_advanceNumber_116 : decode m_To_advanceNumber.2.1 116 = .ok (.iconst 2, 1) := by decide +kernel
theorem d_To_advanceNumber_117 : decode m_To_advanceNumber.2.1 117 = .ok (.putfield 49, 3) := by decide +kernel
theorem d_To_advanceNumber_120 : decode m_To_advanceNumber.2.1 120 = .ok (.return_, 1) := by decide +kernel
theorem d_To_advanceNumber_112 : decode m_To_advanceNumber.2.1 112 = .ok (.iconst 4, 1) := by decide +kernel
theorem d_To_advanceNumber_113 : decode m_To_advanceNumber.2.1 113 = .ok (.goto 4, 3) := by decide +kernel
theorem d_To_advanceNumber_16 : decode m_To_advanceNumber.2.1 16 = .ok (.aload_n 0, 1) := by decide +kernel
theorem d_To_advanceNumber_17 : decode m_To_advanceNumber.2.1 17 = .ok (.getfield 27, 3) := by decide +kernel
theorem d_To_advanceNumber_20 : decode m_To_advanceNumber.2.1 20 = .ok (.aload_n 0, 1) := by decide +kernel
theorem d_To_advanceNumber_21 : decode m_To_advanceNumber.2.1 21 = .ok (.getfield 34, 3) := by decide +kernel
theorem d_To_advanceNumber_24 : decode m_To_advanceNumber.2.1 24 = .ok (.baload, 1) := by decide +kernel
theorem d_To_advanceNumber_25 : decode m_To_advanceNumber.2.1 25 = .ok (.bipush 48, 2) := by decide +kernel
theorem d_To_advanceNumber_27 : decode m_To_advanceNumber.2.1 27 = .ok (.if_icmp .lt 71, 3) := by decide +kernel
theorem d_To_advanceNumber_30 : decode m_To_advanceNumber.2.1 30 = .ok (.aload_n 0, 1) := by decide +kernel
theorem d_To_advanceNumber_31 : decode m_To_advanceNumber.2.1 31 = .ok (.getfield 27, 3) := by decide +kernel
theorem d_To_advanceNumber_34 : decode m_To_advanceNumber.2.1 34 = .ok (.aload_n 0, 1) := by decide +kernel
theorem d_To_advanceNumber_35 : decode m_To_advanceNumber.2.1 35 = .ok (.getfield 34, 3) := by decide +kernel
theorem d_To_advanceNumber_38 : decode m_To_advanceNumber.2.1 38 = .ok (.baload, 1) := by decide +kernel
theorem d_To_advanceNumber_39 : decode m_To_advanceNumber.2.1 39 = .ok (.bipush 57, 2) := by decide +kernel
theorem d_To_advanceNumber_41 : decode m_To_advanceNumber.2.1 41 = .ok (.if_icmp .gt 57, 3) := by decide +kernel
theorem d_To_advanceNumber_44 : decode m_To_advanceNumber.2.1 44 = .ok (.aload_n 0, 1) := by decide +kernel
theorem d_To_advanceNumber_45 : decode m_To_advanceNumber.2.1 45 = .ok (.aload_n 0, 1) := by decide +kernel
theorem d_To_advanceNumber_46 : decode m_To_advanceNumber.2.1 46 = .ok (.getfield 34, 3) := by decide +kernel
theorem d_To_advanceNumber_49 : decode m_To_advanceNumber.2.1 49 = .ok (.aload_n 0, 1) := by decide +kernel
theorem d_To_advanceNumber_50 : decode m_To_advanceNumber.2.1 50 = .ok (.getfield 46, 3) := by decide +kernel
theorem d_To_advanceNumber_53 : decode m_To_advanceNumber.2.1 53 = .ok (.isub, 1) := by decide +kernel
theorem d_To_advanceNumber_54 : decode m_To_advanceNumber.2.1 54 = .ok (.iconst 4, 1) := by decide +kernel
theorem d_To_advanceNumber_55 : decode m_To_advanceNumber.2.1 55 = .ok (.if_icmp .ge 26, 3) := by decide +kernel
theorem d_To_advanceNumber_81 : decode m_To_advanceNumber.2.1 81 = .ok (.iconst 0, 1) := by decide +kernel
theorem d_To_advanceNumber_82 : decode m_To_advanceNumber.2.1 82 = .ok (.putfield 65, 3) := by decide +kernel
theorem d_To_advanceNumber_85 : decode m_To_advanceNumber.2.1 85 = .ok (.aload_n 0, 1) := by decide +kernel
theorem d_To_advanceNumber_86 : decode m_To_advanceNumber.2.1 86 = .ok (.dup, 1) := by decide +kernel
theorem d_To_advanceNumber_87 : decode m_To_advanceNumber.2.1 87 = .ok (.getfield 34, 3) := by decide +kernel
theorem d_To_advanceNumber_90 : decode m_To_advanceNumber.2.1 90 = .ok (.iconst 1, 1) := by decide +kernel
theorem d_To_advanceNumber_91 : decode m_To_advanceNumber.2.1 91 = .ok (.iadd, 1) := by decide +kernel
theorem d_To_advanceNumber_92 : decode m_To_advanceNumber.2.1 92 = .ok (.putfield 34, 3) := by decide +kernel
theorem d_To_advanceNumber_95 : decode m_To_advanceNumber.2.1 95 = .ok (.goto (-90), 3) := by decide +kernel
theorem d_To_advanceNumber_58 : decode m_To_advanceNumber.2.1 58 = .ok (.aload_n 0, 1) := by decide +kernel
theorem d_To_advanceNumber_59 : decode m_To_advanceNumber.2.1 59 = .ok (.getfield 65, 3) := by decide +kernel
theorem d_To_advanceNumber_62 : decode m_To_advanceNumber.2.1 62 = .ok (.bipush 10, 2) := by decide +kernel
theorem d_To_advanceNumber_64 : decode m_To_advanceNumber.2.1 64 = .ok (.imul, 1) := by decide +kernel
theorem d_To_advanceNumber_65 : decode m_To_advanceNumber.2.1 65 = .ok (.aload_n 0, 1) := by decide +kernel
theorem d_To_advanceNumber_66 : decode m_To_advanceNumber.2.1 66 = .ok (.getfield 27, 3) := by decide +kernel
theorem d_To_advanceNumber_69 : decode m_To_advanceNumber.2.1 69 = .ok (.aload_n 0, 1) := by decide +kernel
theorem d_To_advanceNumber_70 : decode m_To_advanceNumber.2.1 70 = .ok (.getfield 34, 3) := by decide +kernel
theorem d_To_advanceNumber_73 : decode m_To_advanceNumber.2.1 73 = .ok (.baload, 1) := by decide +kernel
theorem d_To_advanceNumber_74 : decode m_To_advanceNumber.2.1 74 = .ok (.iadd, 1) := by decide +kernel
theorem d_To_advanceNumber_75 : decode m_To_advanceNumber.2.1 75 = .ok (.bipush 48, 2) := by decide +kernel
theorem d_To_advanceNumber_77 : decode m_To_advanceNumber.2.1 77 = .ok (.isub, 1) := by decide +kernel
theorem d_To_advanceNumber_78 : decode m_To_advanceNumber.2.1 78 = .ok (.goto 4, 3) := by decide +kernel
abbrev m_To_reservedWord : aw_MI := (⟨"MaypoleGreen$Tokens", "reservedWord", "()I"⟩, prog_11_method_7_code, 2, some .int)
theorem k_To_reservedWord : aw_K m_To_reservedWord 0 := ⟨aw_in 604 (by decide +kernel) rfl, aw_in 7 (by decide +kernel) rfl, ⟨by decide, by decide, by decide +kernel⟩, by decide, by decide +kernel⟩
theorem d_To_reservedWord_0 : decode m_To_reservedWord.2.1 0 = .ok (.aload_n 0, 1) := by decide +kernel
theorem d_To_reservedWord_1 : decode m_To_reservedWord.2.1 1 = .ok (.getfield 49, 3) := by decide +kernel
theorem d_To_reservedWord_4 : decode m_To_reservedWord.2.1 4 = .ok (.iconst 1, 1) := by decide +kernel
theorem d_To_reservedWord_5 : decode m_To_reservedWord.2.1 5 = .ok (.if_icmp .ne 33, 3) := by decide +kernel
theorem d_To_reservedWord_38 : decode m_To_reservedWord.2.1 38 = .ok (.iconst (-1), 1) := by decide +kernel
theorem d_To_reservedWord_39 : decode m_To_reservedWord.2.1 39 = .ok (.ireturn, 1) := by decide +kernel
theorem d_To_reservedWord_8 : decode m_To_reservedWord.2.1 8 = .ok (.iconst 0, 1) := by decide +kernel
theorem d_To_reservedWord_9 : decode m_To_reservedWord.2.1 9 = .ok (.istore_n 1, 1) := by decide +kernel
theorem d_To_reservedWord_10 : decode m_To_reservedWord.2.1 10 = .ok (.iload_n 1, 1) := by decide +kernel
theorem d_To_reservedWord_11 : decode m_To_reservedWord.2.1 11 = .ok (.bipush 19, 2) := by decide +kernel
theorem d_To_reservedWord_13 : decode m_To_reservedWord.2.1 13 = .ok (.if_icmp .ge 25, 3) := by decide +kernel
theorem d_To_reservedWord_16 : decode m_To_reservedWord.2.1 16 = .ok (.aload_n 0, 1) := by decide +kernel
theorem d_To_reservedWord_17 : decode m_To_reservedWord.2.1 17 = .ok (.getfield 9, 3) := by decide +kernel
theorem f_To_9 : aw_F "MaypoleGreen$Tokens" 9 6 10 true := ⟨cR6, cT6, 11, fun k => cY6.getD k .int, rfl, ci6, cy6, cn6, rfl, by decide, aw_in 263 (by decide +kernel) rfl, rfl, rfl, rfl⟩
theorem d_To_reservedWord_20 : decode m_To_reservedWord.2.1 20 = .ok (.iload_n 1, 1) := by decide +kernel
theorem d_To_reservedWord_21 : decode m_To_reservedWord.2.1 21 = .ok (.laload, 1) := by decide +kernel
theorem d_To_reservedWord_22 : decode m_To_reservedWord.2.1 22 = .ok (.aload_n 0, 1) := by decide +kernel
theorem d_To_reservedWord_23 : decode m_To_reservedWord.2.1 23 = .ok (.getfield 61, 3) := by decide +kernel
theorem d_To_reservedWord_26 : decode m_To_reservedWord.2.1 26 = .ok (.lcmp, 1) := by decide +kernel
theorem d_To_reservedWord_27 : decode m_To_reservedWord.2.1 27 = .ok (.ifCond .ne 5, 3) := by decide +kernel
theorem d_To_reservedWord_32 : decode m_To_reservedWord.2.1 32 = .ok (.iinc 1 1, 3) := by decide +kernel
theorem d_To_reservedWord_35 : decode m_To_reservedWord.2.1 35 = .ok (.goto (-25), 3) := by decide +kernel
theorem d_To_reservedWord_30 : decode m_To_reservedWord.2.1 30 = .ok (.iload_n 1, 1) := by decide +kernel
theorem d_To_reservedWord_31 : decode m_To_reservedWord.2.1 31 = .ok (.ireturn, 1) := by decide +kernel
abbrev m_To_blame : aw_MI := (⟨"MaypoleGreen$Tokens", "blame", "(I)Z"⟩, prog_11_method_6_code, 2, some .boolean)
theorem k_To_blame : aw_K m_To_blame 1 := ⟨aw_in 612 (by decide +kernel) rfl, aw_in 7 (by decide +kernel) rfl, ⟨by decide, by decide, by decide +kernel⟩, by decide, by decide +kernel⟩
theorem d_To_blame_0 : decode m_To_blame.2.1 0 = .ok (.aload_n 0, 1) := by decide +kernel
theorem d_To_blame_1 : decode m_To_blame.2.1 1 = .ok (.getfield 37, 3) := by decide +kernel
theorem d_To_blame_4 : decode m_To_blame.2.1 4 = .ok (.ifCond .ne 28, 3) := by decide +kernel
theorem d_To_blame_32 : decode m_To_blame.2.1 32 = .ok (.iconst 0, 1) := by decide +kernel
theorem d_To_blame_33 : decode m_To_blame.2.1 33 = .ok (.ireturn, 1) := by decide +kernel
theorem d_To_blame_7 : decode m_To_blame.2.1 7 = .ok (.aload_n 0, 1) := by decide +kernel
theorem d_To_blame_8 : decode m_To_blame.2.1 8 = .ok (.aload_n 0, 1) := by decide +kernel
theorem d_To_blame_9 : decode m_To_blame.2.1 9 = .ok (.getfield 49, 3) := by decide +kernel
theorem d_To_blame_12 : decode m_To_blame.2.1 12 = .ok (.iconst 4, 1) := by decide +kernel
theorem d_To_blame_13 : decode m_To_blame.2.1 13 = .ok (.if_icmp .ne 7, 3) := by decide +kernel
theorem d_To_blame_20 : decode m_To_blame.2.1 20 = .ok (.iload_n 1, 1) := by decide +kernel
theorem d_To_blame_21 : decode m_To_blame.2.1 21 = .ok (.putfield 37, 3) := by decide +kernel
theorem d_To_blame_24 : decode m_To_blame.2.1 24 = .ok (.aload_n 0, 1) := by decide +kernel
theorem d_To_blame_25 : decode m_To_blame.2.1 25 = .ok (.aload_n 0, 1) := by decide +kernel
theorem d_To_blame_26 : decode m_To_blame.2.1 26 = .ok (.getfield 46, 3) := by decide +kernel
theorem d_To_blame_29 : decode m_To_blame.2.1 29 = .ok (.putfield 40, 3) := by decide +kernel
theorem d_To_blame_16 : decode m_To_blame.2.1 16 = .ok (.iconst 1, 1) := by decide +kernel
theorem d_To_blame_17 : decode m_To_blame.2.1 17 = .ok (.goto 4, 3) := by decide +kernel
abbrev m_To_takeNumber : aw_MI := (⟨"MaypoleGreen$Tokens", "takeNumber", "(II)I"⟩, prog_11_method_11_code, 4, some .int)
theorem k_To_takeNumber : aw_K m_To_takeNumber 2 := ⟨aw_in 617 (by decide +kernel) rfl, aw_in 7 (by decide +kernel) rfl, ⟨by decide, by decide, by decide +kernel⟩, by decide, by decide +kernel⟩
theorem d_To_takeNumber_0 : decode m_To_takeNumber.2.1 0 = .ok (.aload_n 0, 1) := by decide +kernel
theorem d_To_takeNumber_1 : decode m_To_takeNumber.2.1 1 = .ok (.getfield 49, 3) := by decide +kernel
theorem d_To_takeNumber_4 : decode m_To_takeNumber.2.1 4 = .ok (.iconst 2, 1) := by decide +kernel
theorem d_To_takeNumber_5 : decode m_To_takeNumber.2.1 5 = .ok (.if_icmp .eq 11, 3) := by decide +kernel
theorem d_To_takeNumber_16 : decode m_To_takeNumber.2.1 16 = .ok (.aload_n 0, 1) := by decide +kernel
theorem d_To_takeNumber_17 : decode m_To_takeNumber.2.1 17 = .ok (.getfield 65, 3) := by decide +kernel
theorem d_To_takeNumber_20 : decode m_To_takeNumber.2.1 20 = .ok (.iload_n 1, 1) := by decide +kernel
theorem d_To_takeNumber_21 : decode m_To_takeNumber.2.1 21 = .ok (.iload_n 2, 1) := by decide +kernel
theorem d_To_takeNumber_22 : decode m_To_takeNumber.2.1 22 = .ok (.invokestatic 75, 3) := by decide +kernel
abbrev m_Mg_isWithin : aw_MI := (⟨"MaypoleGreen", "isWithin", "(III)Z"⟩, prog_1_method_52_code, 3, some .boolean)
theorem ln_To_75 : Cond.methodLinkNest "MaypoleGreen$Tokens" 75 m_Mg_isWithin.1 "MaypoleGreen" ∈ tables_1 := List.mem_of_getElem? (i := 619) (by decide +kernel)
theorem k_Mg_isWithin : aw_K m_Mg_isWithin 3 := ⟨aw_in 502 (by decide +kernel) rfl, aw_in 1 (by decide +kernel) rfl, ⟨by decide, by decide, by decide +kernel⟩, by decide, by decide +kernel⟩
theorem st_Mg_isWithin : Cond.static m_Mg_isWithin.1 ∈ aw_T := aw_in 501 (by decide +kernel) rfl
theorem d_To_takeNumber_25 : decode m_To_takeNumber.2.1 25 = .ok (.ifCond .ne 11, 3) := by decide +kernel
theorem d_To_takeNumber_36 : decode m_To_takeNumber.2.1 36 = .ok (.aload_n 0, 1) := by decide +kernel
theorem d_To_takeNumber_37 : decode m_To_takeNumber.2.1 37 = .ok (.getfield 65, 3) := by decide +kernel
theorem d_To_takeNumber_40 : decode m_To_takeNumber.2.1 40 = .ok (.istore_n 3, 1) := by decide +kernel
theorem d_To_takeNumber_41 : decode m_To_takeNumber.2.1 41 = .ok (.aload_n 0, 1) := by decide +kernel
theorem d_To_takeNumber_42 : decode m_To_takeNumber.2.1 42 = .ok (.invokevirtual 43, 3) := by decide +kernel
theorem d_To_takeNumber_45 : decode m_To_takeNumber.2.1 45 = .ok (.iload_n 3, 1) := by decide +kernel
theorem d_To_takeNumber_46 : decode m_To_takeNumber.2.1 46 = .ok (.ireturn, 1) := by decide +kernel
theorem d_To_takeNumber_28 : decode m_To_takeNumber.2.1 28 = .ok (.aload_n 0, 1) := by decide +kernel
theorem d_To_takeNumber_29 : decode m_To_takeNumber.2.1 29 = .ok (.iconst 4, 1) := by decide +kernel
theorem d_To_takeNumber_30 : decode m_To_takeNumber.2.1 30 = .ok (.invokevirtual 71, 3) := by decide +kernel
theorem lk_To_71 : Cond.methodLink "MaypoleGreen$Tokens" 71 m_To_blame.1 ∈ aw_T := aw_in 618 (by decide +kernel) rfl
theorem in_To_blame : Cond.instanceMethod m_To_blame.1 ∈ aw_T := aw_in 610 (by decide +kernel) rfl
theorem se_To_blame : Cond.selects m_To_blame.1.cls m_To_blame.1 m_To_blame.1 ∈ aw_T := aw_in 611 (by decide +kernel) rfl
theorem d_To_takeNumber_33 : decode m_To_takeNumber.2.1 33 = .ok (.pop, 1) := by decide +kernel
theorem d_To_takeNumber_34 : decode m_To_takeNumber.2.1 34 = .ok (.iconst (-1), 1) := by decide +kernel
theorem d_To_takeNumber_35 : decode m_To_takeNumber.2.1 35 = .ok (.ireturn, 1) := by decide +kernel
theorem d_To_takeNumber_8 : decode m_To_takeNumber.2.1 8 = .ok (.aload_n 0, 1) := by decide +kernel
theorem d_To_takeNumber_9 : decode m_To_takeNumber.2.1 9 = .ok (.iconst 2, 1) := by decide +kernel
theorem d_To_takeNumber_10 : decode m_To_takeNumber.2.1 10 = .ok (.invokevirtual 71, 3) := by decide +kernel
theorem d_To_takeNumber_13 : decode m_To_takeNumber.2.1 13 = .ok (.pop, 1) := by decide +kernel
theorem d_To_takeNumber_14 : decode m_To_takeNumber.2.1 14 = .ok (.iconst (-1), 1) := by decide +kernel
theorem d_To_takeNumber_15 : decode m_To_takeNumber.2.1 15 = .ok (.ireturn, 1) := by decide +kernel
abbrev m_To_takeSemicolon : aw_MI := (⟨"MaypoleGreen$Tokens", "takeSemicolon", "()Z"⟩, prog_11_method_9_code, 1, some .boolean)
theorem k_To_takeSemicolon : aw_K m_To_takeSemicolon 0 := ⟨aw_in 623 (by decide +kernel) rfl, aw_in 7 (by decide +kernel) rfl, ⟨by decide, by decide, by decide +kernel⟩, by decide, by decide +kernel⟩
theorem d_To_takeSemicolon_0 : decode m_To_takeSemicolon.2.1 0 = .ok (.aload_n 0, 1) := by decide +kernel
theorem d_To_takeSemicolon_1 : decode m_To_takeSemicolon.2.1 1 = .ok (.getfield 49, 3) := by decide +kernel
theorem d_To_takeSemicolon_4 : decode m_To_takeSemicolon.2.1 4 = .ok (.iconst 3, 1) := by decide +kernel
theorem d_To_takeSemicolon_5 : decode m_To_takeSemicolon.2.1 5 = .ok (.if_icmp .ne 12, 3) := by decide +kernel
theorem d_To_takeSemicolon_17 : decode m_To_takeSemicolon.2.1 17 = .ok (.aload_n 0, 1) := by decide +kernel
theorem d_To_takeSemicolon_18 : decode m_To_takeSemicolon.2.1 18 = .ok (.iconst 2, 1) := by decide +kernel
theorem d_To_takeSemicolon_19 : decode m_To_takeSemicolon.2.1 19 = .ok (.invokevirtual 71, 3) := by decide +kernel
theorem d_To_takeSemicolon_22 : decode m_To_takeSemicolon.2.1 22 = .ok (.ireturn, 1) := by decide +kernel
theorem d_To_takeSemicolon_8 : decode m_To_takeSemicolon.2.1 8 = .ok (.aload_n 0, 1) := by decide +kernel
theorem d_To_takeSemicolon_9 : decode m_To_takeSemicolon.2.1 9 = .ok (.getfield 58, 3) := by decide +kernel
theorem d_To_takeSemicolon_12 : decode m_To_takeSemicolon.2.1 12 = .ok (.bipush 59, 2) := by decide +kernel
theorem d_To_takeSemicolon_14 : decode m_To_takeSemicolon.2.1 14 = .ok (.if_icmp .eq 9, 3) := by decide +kernel
theorem d_To_takeSemicolon_23 : decode m_To_takeSemicolon.2.1 23 = .ok (.aload_n 0, 1) := by decide +kernel
theorem d_To_takeSemicolon_24 : decode m_To_takeSemicolon.2.1 24 = .ok (.invokevirtual 43, 3) := by decide +kernel
theorem d_To_takeSemicolon_27 : decode m_To_takeSemicolon.2.1 27 = .ok (.iconst 1, 1) := by decide +kernel
theorem d_To_takeSemicolon_28 : decode m_To_takeSemicolon.2.1 28 = .ok (.ireturn, 1) := by decide +kernel
abbrev m_To_isName : aw_MI := (⟨"MaypoleGreen$Tokens", "isName", "()Z"⟩, prog_11_method_10_code, 1, some .boolean)
theorem k_To_isName : aw_K m_To_isName 0 := ⟨aw_in 635 (by decide +kernel) rfl, aw_in 7 (by decide +kernel) rfl, ⟨by decide, by decide, by decide +kernel⟩, by decide, by decide +kernel⟩
theorem d_To_isName_0 : decode m_To_isName.2.1 0 = .ok (.aload_n 0, 1) := by decide +kernel
theorem d_To_isName_1 : decode m_To_isName.2.1 1 = .ok (.getfield 49, 3) := by decide +kernel
theorem d_To_isName_4 : decode m_To_isName.2.1 4 = .ok (.iconst 1, 1) := by decide +kernel
theorem d_To_isName_5 : decode m_To_isName.2.1 5 = .ok (.if_icmp .ne 24, 3) := by decide +kernel
theorem d_To_isName_29 : decode m_To_isName.2.1 29 = .ok (.iconst 0, 1) := by decide +kernel
theorem d_To_isName_30 : decode m_To_isName.2.1 30 = .ok (.ireturn, 1) := by decide +kernel
theorem d_To_isName_8 : decode m_To_isName.2.1 8 = .ok (.aload_n 0, 1) := by decide +kernel
theorem d_To_isName_9 : decode m_To_isName.2.1 9 = .ok (.getfield 61, 3) := by decide +kernel
theorem d_To_isName_12 : decode m_To_isName.2.1 12 = .ok (.lconst 0, 1) := by decide +kernel
theorem d_To_isName_13 : decode m_To_isName.2.1 13 = .ok (.lcmp, 1) := by decide +kernel
theorem d_To_isName_14 : decode m_To_isName.2.1 14 = .ok (.ifCond .eq 15, 3) := by decide +kernel
theorem d_To_isName_17 : decode m_To_isName.2.1 17 = .ok (.aload_n 0, 1) := by decide +kernel
theorem d_To_isName_18 : decode m_To_isName.2.1 18 = .ok (.invokevirtual 68, 3) := by decide +kernel
theorem lk_To_68 : Cond.methodLink "MaypoleGreen$Tokens" 68 m_To_reservedWord.1 ∈ aw_T := aw_in 636 (by decide +kernel) rfl
theorem in_To_reservedWord : Cond.instanceMethod m_To_reservedWord.1 ∈ aw_T := aw_in 602 (by decide +kernel) rfl
theorem se_To_reservedWord : Cond.selects m_To_reservedWord.1.cls m_To_reservedWord.1 m_To_reservedWord.1 ∈ aw_T := aw_in 603 (by decide +kernel) rfl
theorem d_To_isName_21 : decode m_To_isName.2.1 21 = .ok (.iconst (-1), 1) := by decide +kernel
theorem d_To_isName_22 : decode m_To_isName.2.1 22 = .ok (.if_icmp .ne 7, 3) := by decide +kernel
theorem d_To_isName_25 : decode m_To_isName.2.1 25 = .ok (.iconst 1, 1) := by decide +kernel
theorem d_To_isName_26 : decode m_To_isName.2.1 26 = .ok (.goto 4, 3) := by decide +kernel
abbrev m_To_takeReserved : aw_MI := (⟨"MaypoleGreen$Tokens", "takeReserved", "(I)Z"⟩, prog_11_method_8_code, 2, some .boolean)
theorem k_To_takeReserved : aw_K m_To_takeReserved 1 := ⟨aw_in 644 (by decide +kernel) rfl, aw_in 7 (by decide +kernel) rfl, ⟨by decide, by decide, by decide +kernel⟩, by decide, by decide +kernel⟩
theorem d_To_takeReserved_0 : decode m_To_takeReserved.2.1 0 = .ok (.aload_n 0, 1) := by decide +kernel
theorem d_To_takeReserved_1 : decode m_To_takeReserved.2.1 1 = .ok (.invokevirtual 68, 3) := by decide +kernel
theorem d_To_takeReserved_4 : decode m_To_takeReserved.2.1 4 = .ok (.iload_n 1, 1) := by decide +kernel
theorem d_To_takeReserved_5 : decode m_To_takeReserved.2.1 5 = .ok (.if_icmp .eq 9, 3) := by decide +kernel
theorem d_To_takeReserved_14 : decode m_To_takeReserved.2.1 14 = .ok (.aload_n 0, 1) := by decide +kernel
theorem d_To_takeReserved_15 : decode m_To_takeReserved.2.1 15 = .ok (.invokevirtual 43, 3) := by decide +kernel
theorem d_To_takeReserved_18 : decode m_To_takeReserved.2.1 18 = .ok (.iconst 1, 1) := by decide +kernel
theorem d_To_takeReserved_19 : decode m_To_takeReserved.2.1 19 = .ok (.ireturn, 1) := by decide +kernel
theorem d_To_takeReserved_8 : decode m_To_takeReserved.2.1 8 = .ok (.aload_n 0, 1) := by decide +kernel
theorem d_To_takeReserved_9 : decode m_To_takeReserved.2.1 9 = .ok (.iconst 2, 1) := by decide +kernel
theorem d_To_takeReserved_10 : decode m_To_takeReserved.2.1 10 = .ok (.invokevirtual 71, 3) := by decide +kernel
theorem d_To_takeReserved_13 : decode m_To_takeReserved.2.1 13 = .ok (.ireturn, 1) := by decide +kernel
