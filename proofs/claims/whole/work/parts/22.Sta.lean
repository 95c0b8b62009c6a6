abbrev m_Pr_checkIndex : aw_MI := (⟨"jdk/internal/util/Preconditions", "checkIndex", "(IILjava/util/function/BiFunction;)I"⟩, prog_22_method_11_code, 3, some .int)
theorem k_Pr_checkIndex : aw_K m_Pr_checkIndex 3 := ⟨aw_in 228 (by decide +kernel) rfl, aw_in 10 (by decide +kernel) rfl, ⟨by decide, by decide, by decide +kernel⟩, by decide, by decide +kernel⟩
theorem d_Pr_checkIndex_0 : decode m_Pr_checkIndex.2.1 0 = .ok (.iload_n 0, 1) := by decide +kernel
theorem d_Pr_checkIndex_1 : decode m_Pr_checkIndex.2.1 1 = .ok (.ifCond .lt 8, 3) := by decide +kernel
theorem d_Pr_checkIndex_9 : decode m_Pr_checkIndex.2.1 9 = .ok (.aload_n 2, 1) := by decide +kernel
theorem d_Pr_checkIndex_10 : decode m_Pr_checkIndex.2.1 10 = .ok (.iload_n 0, 1) := by decide +kernel
theorem d_Pr_checkIndex_11 : decode m_Pr_checkIndex.2.1 11 = .ok (.iload_n 1, 1) := by decide +kernel
theorem d_Pr_checkIndex_12 : decode m_Pr_checkIndex.2.1 12 = .ok (.invokestatic 95, 3) := by decide +kernel
theorem d_Pr_checkIndex_4 : decode m_Pr_checkIndex.2.1 4 = .ok (.iload_n 0, 1) := by decide +kernel
theorem d_Pr_checkIndex_5 : decode m_Pr_checkIndex.2.1 5 = .ok (.iload_n 1, 1) := by decide +kernel
theorem d_Pr_checkIndex_6 : decode m_Pr_checkIndex.2.1 6 = .ok (.if_icmp .lt 10, 3) := by decide +kernel
theorem d_Pr_checkIndex_16 : decode m_Pr_checkIndex.2.1 16 = .ok (.iload_n 0, 1) := by decide +kernel
theorem d_Pr_checkIndex_17 : decode m_Pr_checkIndex.2.1 17 = .ok (.ireturn, 1) := by decide +kernel
abbrev m_St_length : aw_MI := (⟨"java/lang/String", "length", "()I"⟩, prog_17_method_54_code, 1, some .int)
theorem k_St_length : aw_K m_St_length 0 := ⟨aw_in 203 (by decide +kernel) rfl, aw_in 8 (by decide +kernel) rfl, ⟨by decide, by decide, by decide +kernel⟩, by decide, by decide +kernel⟩
theorem d_St_length_0 : decode m_St_length.2.1 0 = .ok (.aload_n 0, 1) := by decide +kernel
theorem d_St_length_1 : decode m_St_length.2.1 1 = .ok (.getfield 9, 3) := by decide +kernel
theorem d_St_length_4 : decode m_St_length.2.1 4 = .ok (.arraylength, 1) := by decide +kernel
theorem d_St_length_5 : decode m_St_length.2.1 5 = .ok (.aload_n 0, 1) := by decide +kernel
theorem d_St_length_6 : decode m_St_length.2.1 6 = .ok (.invokevirtual 335, 3) := by decide +kernel
abbrev m_St_coder : aw_MI := (⟨"java/lang/String", "coder", "()B"⟩, prog_17_method_152_code, 1, some .byte)
theorem lk_St_335 : Cond.methodLink "java/lang/String" 335 m_St_coder.1 ∈ aw_T := aw_in 204 (by decide +kernel) rfl
theorem k_St_coder : aw_K m_St_coder 0 := ⟨aw_in 207 (by decide +kernel) rfl, aw_in 8 (by decide +kernel) rfl, ⟨by decide, by decide, by decide +kernel⟩, by decide, by decide +kernel⟩
theorem in_St_coder : Cond.instanceMethod m_St_coder.1 ∈ aw_T := aw_in 205 (by decide +kernel) rfl
theorem se_St_coder : Cond.selects m_St_coder.1.cls m_St_coder.1 m_St_coder.1 ∈ aw_T := aw_in 206 (by decide +kernel) rfl
theorem d_St_length_9 : decode m_St_length.2.1 9 = .ok (.ishr, 1) := by decide +kernel
theorem d_St_length_10 : decode m_St_length.2.1 10 = .ok (.ireturn, 1) := by decide +kernel
theorem d_St_coder_0 : decode m_St_coder.2.1 0 = .ok (.getstatic 38, 3) := by decide +kernel
theorem d_St_coder_3 : decode m_St_coder.2.1 3 = .ok (.ifCond .eq 10, 3) := by decide +kernel
theorem d_St_coder_6 : decode m_St_coder.2.1 6 = .ok (.aload_n 0, 1) := by decide +kernel
theorem d_St_coder_7 : decode m_St_coder.2.1 7 = .ok (.getfield 15, 3) := by decide +kernel
theorem d_St_coder_10 : decode m_St_coder.2.1 10 = .ok (.goto 4, 3) := by decide +kernel
theorem d_St_coder_14 : decode m_St_coder.2.1 14 = .ok (.ireturn, 1) := by decide +kernel
abbrev m_St_charAt : aw_MI := (⟨"java/lang/String", "charAt", "(I)C"⟩, prog_17_method_56_code, 2, some .char)
theorem k_St_charAt : aw_K m_St_charAt 1 := ⟨aw_in 213 (by decide +kernel) rfl, aw_in 8 (by decide +kernel) rfl, ⟨by decide, by decide, by decide +kernel⟩, by decide, by decide +kernel⟩
theorem d_St_charAt_0 : decode m_St_charAt.2.1 0 = .ok (.aload_n 0, 1) := by decide +kernel
theorem d_St_charAt_1 : decode m_St_charAt.2.1 1 = .ok (.invokevirtual 492, 3) := by decide +kernel
abbrev m_St_isLatin1 : aw_MI := (⟨"java/lang/String", "isLatin1", "()Z"⟩, prog_17_method_154_code, 1, some .boolean)
theorem lk_St_492 : Cond.methodLink "java/lang/String" 492 m_St_isLatin1.1 ∈ aw_T := aw_in 214 (by decide +kernel) rfl
theorem k_St_isLatin1 : aw_K m_St_isLatin1 0 := ⟨aw_in 217 (by decide +kernel) rfl, aw_in 8 (by decide +kernel) rfl, ⟨by decide, by decide, by decide +kernel⟩, by decide, by decide +kernel⟩
theorem in_St_isLatin1 : Cond.instanceMethod m_St_isLatin1.1 ∈ aw_T := aw_in 215 (by decide +kernel) rfl
theorem se_St_isLatin1 : Cond.selects m_St_isLatin1.1.cls m_St_isLatin1.1 m_St_isLatin1.1 ∈ aw_T := aw_in 216 (by decide +kernel) rfl
theorem d_St_charAt_4 : decode m_St_charAt.2.1 4 = .ok (.ifCond .eq 12, 3) := by decide +kernel
theorem d_St_charAt_16 : decode m_St_charAt.2.1 16 = .ok (.aload_n 0, 1) := by decide +kernel
theorem d_St_charAt_17 : decode m_St_charAt.2.1 17 = .ok (.getfield 9, 3) := by decide +kernel
theorem d_St_charAt_20 : decode m_St_charAt.2.1 20 = .ok (.iload_n 1, 1) := by decide +kernel
theorem d_St_charAt_21 : decode m_St_charAt.2.1 21 = .ok (.invokestatic 498, 3) := by decide +kernel
abbrev m_Su_charAt : aw_MI := (⟨"java/lang/StringUTF16", "charAt", "([BI)C"⟩, prog_19_method_83_code, 2, some .char)
theorem lk_St_498 : Cond.methodLink "java/lang/String" 498 m_Su_charAt.1 ∈ aw_T := aw_in 229 (by decide +kernel) rfl
theorem k_Su_charAt : aw_K m_Su_charAt 2 := ⟨aw_in 231 (by decide +kernel) rfl, aw_in 11 (by decide +kernel) rfl, ⟨by decide, by decide, by decide +kernel⟩, by decide, by decide +kernel⟩
theorem st_Su_charAt : Cond.static m_Su_charAt.1 ∈ aw_T := aw_in 230 (by decide +kernel) rfl
theorem d_St_charAt_24 : decode m_St_charAt.2.1 24 = .ok (.ireturn, 1) := by decide +kernel
theorem d_St_charAt_7 : decode m_St_charAt.2.1 7 = .ok (.aload_n 0, 1) := by decide +kernel
theorem d_St_charAt_8 : decode m_St_charAt.2.1 8 = .ok (.getfield 9, 3) := by decide +kernel
theorem d_St_charAt_11 : decode m_St_charAt.2.1 11 = .ok (.iload_n 1, 1) := by decide +kernel
theorem d_St_charAt_12 : decode m_St_charAt.2.1 12 = .ok (.invokestatic 495, 3) := by decide +kernel
abbrev m_Sl_charAt : aw_MI := (⟨"java/lang/StringLatin1", "charAt", "([BI)C"⟩, prog_18_method_2_code, 2, some .char)
theorem lk_St_495 : Cond.methodLink "java/lang/String" 495 m_Sl_charAt.1 ∈ aw_T := aw_in 218 (by decide +kernel) rfl
theorem k_Sl_charAt : aw_K m_Sl_charAt 2 := ⟨aw_in 220 (by decide +kernel) rfl, aw_in 9 (by decide +kernel) rfl, ⟨by decide, by decide, by decide +kernel⟩, by decide, by decide +kernel⟩
theorem st_Sl_charAt : Cond.static m_Sl_charAt.1 ∈ aw_T := aw_in 219 (by decide +kernel) rfl
theorem d_St_charAt_15 : decode m_St_charAt.2.1 15 = .ok (.ireturn, 1) := by decide +kernel
theorem d_St_isLatin1_0 : decode m_St_isLatin1.2.1 0 = .ok (.getstatic 38, 3) := by decide +kernel
theorem d_St_isLatin1_3 : decode m_St_isLatin1.2.1 3 = .ok (.ifCond .eq 14, 3) := by decide +kernel
theorem d_St_isLatin1_6 : decode m_St_isLatin1.2.1 6 = .ok (.aload_n 0, 1) := by decide +kernel
theorem d_St_isLatin1_7 : decode m_St_isLatin1.2.1 7 = .ok (.getfield 15, 3) := by decide +kernel
theorem d_St_isLatin1_10 : decode m_St_isLatin1.2.1 10 = .ok (.ifCond .ne 7, 3) := by decide +kernel
theorem d_St_isLatin1_13 : decode m_St_isLatin1.2.1 13 = .ok (.iconst 1, 1) := by decide +kernel
theorem d_St_isLatin1_14 : decode m_St_isLatin1.2.1 14 = .ok (.goto 4, 3) := by decide +kernel
theorem d_St_isLatin1_18 : decode m_St_isLatin1.2.1 18 = .ok (.ireturn, 1) := by decide +kernel
theorem d_Sl_charAt_0 : decode m_Sl_charAt.2.1 0 = .ok (.iload_n 1, 1) := by decide +kernel
theorem d_Sl_charAt_1 : decode m_Sl_charAt.2.1 1 = .ok (.aload_n 0, 1) := by decide +kernel
theorem d_Sl_charAt_2 : decode m_Sl_charAt.2.1 2 = .ok (.arraylength, 1) := by decide +kernel
theorem d_Sl_charAt_3 : decode m_Sl_charAt.2.1 3 = .ok (.invokestatic 9, 3) := by decide +kernel
abbrev m_St_checkIndex : aw_MI := (⟨"java/lang/String", "checkIndex", "(II)V"⟩, prog_17_method_155_code, 2, none)
theorem lk_Sl_9 : Cond.methodLink "java/lang/StringLatin1" 9 m_St_checkIndex.1 ∈ aw_T := aw_in 221 (by decide +kernel) rfl
theorem k_St_checkIndex : aw_K m_St_checkIndex 2 := ⟨aw_in 223 (by decide +kernel) rfl, aw_in 8 (by decide +kernel) rfl, ⟨by decide, by decide, by decide +kernel⟩, by decide, by decide +kernel⟩
theorem st_St_checkIndex : Cond.static m_St_checkIndex.1 ∈ aw_T := aw_in 222 (by decide +kernel) rfl
theorem d_Sl_charAt_6 : decode m_Sl_charAt.2.1 6 = .ok (.aload_n 0, 1) := by decide +kernel
theorem d_Sl_charAt_7 : decode m_Sl_charAt.2.1 7 = .ok (.iload_n 1, 1) := by decide +kernel
theorem d_Sl_charAt_8 : decode m_Sl_charAt.2.1 8 = .ok (.baload, 1) := by decide +kernel
theorem d_Sl_charAt_9 : decode m_Sl_charAt.2.1 9 = .ok (.sipush 255, 3) := by decide +kernel
theorem d_Sl_charAt_12 : decode m_Sl_charAt.2.1 12 = .ok (.iand, 1) := by decide +kernel
theorem d_Sl_charAt_13 : decode m_Sl_charAt.2.1 13 = .ok (.i2c, 1) := by decide +kernel
theorem d_Sl_charAt_14 : decode m_Sl_charAt.2.1 14 = .ok (.ireturn, 1) := by decide +kernel
theorem d_St_checkIndex_0 : decode m_St_checkIndex.2.1 0 = .ok (.iload_n 0, 1) := by decide +kernel
theorem d_St_checkIndex_1 : decode m_St_checkIndex.2.1 1 = .ok (.iload_n 1, 1) := by decide +kernel
theorem d_St_checkIndex_2 : decode m_St_checkIndex.2.1 2 = .ok (.getstatic 1053, 3) := by decide +kernel
theorem d_St_checkIndex_5 : decode m_St_checkIndex.2.1 5 = .ok (.invokestatic 1059, 3) := by decide +kernel
theorem lk_St_1059 : Cond.methodLink "java/lang/String" 1059 m_Pr_checkIndex.1 ∈ aw_T := aw_in 226 (by decide +kernel) rfl
theorem st_Pr_checkIndex : Cond.static m_Pr_checkIndex.1 ∈ aw_T := aw_in 227 (by decide +kernel) rfl
theorem d_St_checkIndex_8 : decode m_St_checkIndex.2.1 8 = .ok (.pop, 1) := by decide +kernel
theorem d_St_checkIndex_9 : decode m_St_checkIndex.2.1 9 = .ok (.return_, 1) := by decide +kernel
