abbrev m_Md_undo : aw_MI := (⟨"MaypoleGreenModel", "undo", "()I"⟩, prog_14_method_145_code, 1, some .int)
theorem k_Md_undo : aw_K m_Md_undo 0 := ⟨aw_in 1994 (by decide +kernel) rfl, aw_in 16 (by decide +kernel) rfl, ⟨by decide, by decide, by decide +kernel⟩, by decide, by decide +kernel⟩
theorem d_Md_undo_0 : decode m_Md_undo.2.1 0 = .ok (.aload_n 0, 1) := by decide +kernel
theorem d_Md_undo_1 : decode m_Md_undo.2.1 1 = .ok (.getfield 523, 3) := by decide +kernel
theorem d_Md_undo_4 : decode m_Md_undo.2.1 4 = .ok (.ifCond .ne 10, 3) := by decide +kernel
theorem d_Md_undo_14 : decode m_Md_undo.2.1 14 = .ok (.aload_n 0, 1) := by decide +kernel
theorem d_Md_undo_15 : decode m_Md_undo.2.1 15 = .ok (.aload_n 0, 1) := by decide +kernel
theorem d_Md_undo_16 : decode m_Md_undo.2.1 16 = .ok (.getfield 523, 3) := by decide +kernel
theorem d_Md_undo_19 : decode m_Md_undo.2.1 19 = .ok (.iconst 0, 1) := by decide +kernel
theorem d_Md_undo_20 : decode m_Md_undo.2.1 20 = .ok (.invokevirtual 526, 3) := by decide +kernel
theorem d_Md_undo_23 : decode m_Md_undo.2.1 23 = .ok (.aload_n 0, 1) := by decide +kernel
theorem d_Md_undo_24 : decode m_Md_undo.2.1 24 = .ok (.dup, 1) := by decide +kernel
theorem d_Md_undo_25 : decode m_Md_undo.2.1 25 = .ok (.getfield 523, 3) := by decide +kernel
theorem d_Md_undo_28 : decode m_Md_undo.2.1 28 = .ok (.iconst 1, 1) := by decide +kernel
theorem d_Md_undo_29 : decode m_Md_undo.2.1 29 = .ok (.isub, 1) := by decide +kernel
theorem d_Md_undo_30 : decode m_Md_undo.2.1 30 = .ok (.putfield 523, 3) := by decide +kernel
theorem d_Md_undo_33 : decode m_Md_undo.2.1 33 = .ok (.aload_n 0, 1) := by decide +kernel
theorem d_Md_undo_34 : decode m_Md_undo.2.1 34 = .ok (.aload_n 0, 1) := by decide +kernel
theorem d_Md_undo_35 : decode m_Md_undo.2.1 35 = .ok (.getfield 523, 3) := by decide +kernel
theorem d_Md_undo_38 : decode m_Md_undo.2.1 38 = .ok (.invokevirtual 122, 3) := by decide +kernel
theorem d_Md_undo_41 : decode m_Md_undo.2.1 41 = .ok (.ireturn, 1) := by decide +kernel
theorem d_Md_undo_7 : decode m_Md_undo.2.1 7 = .ok (.aload_n 0, 1) := by decide +kernel
theorem d_Md_undo_8 : decode m_Md_undo.2.1 8 = .ok (.bipush 6, 2) := by decide +kernel
theorem d_Md_undo_10 : decode m_Md_undo.2.1 10 = .ok (.invokevirtual 118, 3) := by decide +kernel
theorem d_Md_undo_13 : decode m_Md_undo.2.1 13 = .ok (.ireturn, 1) := by decide +kernel
