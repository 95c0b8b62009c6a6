theorem d_Md_does_0 : decode m_Md_does.2.1 0 = .ok (.aload_n 0, 1) := by decide +kernel
theorem d_Md_does_1 : decode m_Md_does.2.1 1 = .ok (.getfield 7, 3) := by decide +kernel
theorem d_Md_does_4 : decode m_Md_does.2.1 4 = .ok (.iload_n 1, 1) := by decide +kernel
theorem d_Md_does_5 : decode m_Md_does.2.1 5 = .ok (.iaload, 1) := by decide +kernel
theorem d_Md_does_6 : decode m_Md_does.2.1 6 = .ok (.tableswitch 111 3 10 #[46, 111, 111, 111, 67, 72, 85, 106], 46) := by decide +kernel
theorem d_Md_does_117 : decode m_Md_does.2.1 117 = .ok (.iconst 1, 1) := by decide +kernel
theorem d_Md_does_118 : decode m_Md_does.2.1 118 = .ok (.ireturn, 1) := by decide +kernel
theorem d_Md_does_52 : decode m_Md_does.2.1 52 = .ok (.aload_n 0, 1) := by decide +kernel
theorem d_Md_does_53 : decode m_Md_does.2.1 53 = .ok (.aload_n 0, 1) := by decide +kernel
theorem d_Md_does_54 : decode m_Md_does.2.1 54 = .ok (.getfield 7, 3) := by decide +kernel
theorem d_Md_does_57 : decode m_Md_does.2.1 57 = .ok (.iload_n 1, 1) := by decide +kernel
theorem d_Md_does_58 : decode m_Md_does.2.1 58 = .ok (.iconst 1, 1) := by decide +kernel
theorem d_Md_does_59 : decode m_Md_does.2.1 59 = .ok (.iadd, 1) := by decide +kernel
theorem d_Md_does_60 : decode m_Md_does.2.1 60 = .ok (.iaload, 1) := by decide +kernel
theorem d_Md_does_61 : decode m_Md_does.2.1 61 = .ok (.aload_n 0, 1) := by decide +kernel
theorem d_Md_does_62 : decode m_Md_does.2.1 62 = .ok (.getfield 7, 3) := by decide +kernel
theorem d_Md_does_65 : decode m_Md_does.2.1 65 = .ok (.iload_n 1, 1) := by decide +kernel
theorem d_Md_does_66 : decode m_Md_does.2.1 66 = .ok (.iconst 2, 1) := by decide +kernel
theorem d_Md_does_67 : decode m_Md_does.2.1 67 = .ok (.iadd, 1) := by decide +kernel
theorem d_Md_does_68 : decode m_Md_does.2.1 68 = .ok (.iaload, 1) := by decide +kernel
theorem d_Md_does_69 : decode m_Md_does.2.1 69 = .ok (.invokevirtual 490, 3) := by decide +kernel
abbrev m_Md_passesBy : aw_MI := (⟨"MaypoleGreenModel", "passesBy", "(II)Z"⟩, prog_14_method_132_code, 4, some .boolean)
theorem lk_Md_490 : Cond.methodLink "MaypoleGreenModel" 490 m_Md_passesBy.1 ∈ aw_T := aw_in 1945 (by decide +kernel) rfl
theorem k_Md_passesBy : aw_K m_Md_passesBy 2 := ⟨aw_in 1948 (by decide +kernel) rfl, aw_in 16 (by decide +kernel) rfl, ⟨by decide, by decide, by decide +kernel⟩, by decide, by decide +kernel⟩
theorem in_Md_passesBy : Cond.instanceMethod m_Md_passesBy.1 ∈ aw_T := aw_in 1947 (by decide +kernel) rfl
theorem se_Md_passesBy : Cond.selects m_Md_passesBy.1.cls m_Md_passesBy.1 m_Md_passesBy.1 ∈ aw_T := aw_inP 136 (by decide +kernel) rfl
theorem d_Md_does_72 : decode m_Md_does.2.1 72 = .ok (.ireturn, 1) := by decide +kernel
theorem d_Md_does_73 : decode m_Md_does.2.1 73 = .ok (.aload_n 0, 1) := by decide +kernel
theorem d_Md_does_74 : decode m_Md_does.2.1 74 = .ok (.invokevirtual 493, 3) := by decide +kernel
abbrev m_Md_backBy : aw_MI := (⟨"MaypoleGreenModel", "backBy", "()Z"⟩, prog_14_method_133_code, 1, some .boolean)
theorem lk_Md_493 : Cond.methodLink "MaypoleGreenModel" 493 m_Md_backBy.1 ∈ aw_T := aw_in 1949 (by decide +kernel) rfl
theorem k_Md_backBy : aw_K m_Md_backBy 0 := ⟨aw_in 1952 (by decide +kernel) rfl, aw_in 16 (by decide +kernel) rfl, ⟨by decide, by decide, by decide +kernel⟩, by decide, by decide +kernel⟩
theorem in_Md_backBy : Cond.instanceMethod m_Md_backBy.1 ∈ aw_T := aw_in 1951 (by decide +kernel) rfl
theorem se_Md_backBy : Cond.selects m_Md_backBy.1.cls m_Md_backBy.1 m_Md_backBy.1 ∈ aw_T := aw_inP 137 (by decide +kernel) rfl
theorem d_Md_does_77 : decode m_Md_does.2.1 77 = .ok (.ireturn, 1) := by decide +kernel
theorem d_Md_does_78 : decode m_Md_does.2.1 78 = .ok (.aload_n 0, 1) := by decide +kernel
theorem d_Md_does_79 : decode m_Md_does.2.1 79 = .ok (.aload_n 0, 1) := by decide +kernel
theorem d_Md_does_80 : decode m_Md_does.2.1 80 = .ok (.getfield 7, 3) := by decide +kernel
theorem d_Md_does_83 : decode m_Md_does.2.1 83 = .ok (.iload_n 1, 1) := by decide +kernel
theorem d_Md_does_84 : decode m_Md_does.2.1 84 = .ok (.iconst 1, 1) := by decide +kernel
theorem d_Md_does_85 : decode m_Md_does.2.1 85 = .ok (.iadd, 1) := by decide +kernel
theorem d_Md_does_86 : decode m_Md_does.2.1 86 = .ok (.iaload, 1) := by decide +kernel
theorem d_Md_does_87 : decode m_Md_does.2.1 87 = .ok (.invokevirtual 496, 3) := by decide +kernel
abbrev m_Md_weavesBy : aw_MI := (⟨"MaypoleGreenModel", "weavesBy", "(I)Z"⟩, prog_14_method_134_code, 4, some .boolean)
theorem lk_Md_496 : Cond.methodLink "MaypoleGreenModel" 496 m_Md_weavesBy.1 ∈ aw_T := aw_in 1953 (by decide +kernel) rfl
theorem k_Md_weavesBy : aw_K m_Md_weavesBy 1 := ⟨aw_in 1956 (by decide +kernel) rfl, aw_in 16 (by decide +kernel) rfl, ⟨by decide, by decide, by decide +kernel⟩, by decide, by decide +kernel⟩
theorem in_Md_weavesBy : Cond.instanceMethod m_Md_weavesBy.1 ∈ aw_T := aw_in 1955 (by decide +kernel) rfl
theorem se_Md_weavesBy : Cond.selects m_Md_weavesBy.1.cls m_Md_weavesBy.1 m_Md_weavesBy.1 ∈ aw_T := aw_inP 138 (by decide +kernel) rfl
theorem d_Md_does_90 : decode m_Md_does.2.1 90 = .ok (.ireturn, 1) := by decide +kernel
theorem d_Md_does_91 : decode m_Md_does.2.1 91 = .ok (.aload_n 0, 1) := by decide +kernel
theorem d_Md_does_92 : decode m_Md_does.2.1 92 = .ok (.aload_n 0, 1) := by decide +kernel
theorem d_Md_does_93 : decode m_Md_does.2.1 93 = .ok (.getfield 7, 3) := by decide +kernel
theorem d_Md_does_96 : decode m_Md_does.2.1 96 = .ok (.iload_n 1, 1) := by decide +kernel
theorem d_Md_does_97 : decode m_Md_does.2.1 97 = .ok (.iconst 1, 1) := by decide +kernel
theorem d_Md_does_98 : decode m_Md_does.2.1 98 = .ok (.iadd, 1) := by decide +kernel
theorem d_Md_does_99 : decode m_Md_does.2.1 99 = .ok (.iaload, 1) := by decide +kernel
theorem d_Md_does_100 : decode m_Md_does.2.1 100 = .ok (.aload_n 0, 1) := by decide +kernel
theorem d_Md_does_101 : decode m_Md_does.2.1 101 = .ok (.getfield 7, 3) := by decide +kernel
theorem d_Md_does_104 : decode m_Md_does.2.1 104 = .ok (.iload_n 1, 1) := by decide +kernel
theorem d_Md_does_105 : decode m_Md_does.2.1 105 = .ok (.iconst 2, 1) := by decide +kernel
theorem d_Md_does_106 : decode m_Md_does.2.1 106 = .ok (.iadd, 1) := by decide +kernel
theorem d_Md_does_107 : decode m_Md_does.2.1 107 = .ok (.iaload, 1) := by decide +kernel
theorem d_Md_does_108 : decode m_Md_does.2.1 108 = .ok (.invokevirtual 376, 3) := by decide +kernel
theorem d_Md_does_111 : decode m_Md_does.2.1 111 = .ok (.ireturn, 1) := by decide +kernel
theorem d_Md_does_112 : decode m_Md_does.2.1 112 = .ok (.aload_n 0, 1) := by decide +kernel
theorem d_Md_does_113 : decode m_Md_does.2.1 113 = .ok (.invokevirtual 499, 3) := by decide +kernel
abbrev m_Md_doesAny : aw_MI := (⟨"MaypoleGreenModel", "doesAny", "()Z"⟩, prog_14_method_135_code, 3, some .boolean)
theorem lk_Md_499 : Cond.methodLink "MaypoleGreenModel" 499 m_Md_doesAny.1 ∈ aw_T := aw_in 1957 (by decide +kernel) rfl
theorem k_Md_doesAny : aw_K m_Md_doesAny 0 := ⟨aw_in 1960 (by decide +kernel) rfl, aw_in 16 (by decide +kernel) rfl, ⟨by decide, by decide, by decide +kernel⟩, by decide, by decide +kernel⟩
theorem in_Md_doesAny : Cond.instanceMethod m_Md_doesAny.1 ∈ aw_T := aw_in 1959 (by decide +kernel) rfl
theorem se_Md_doesAny : Cond.selects m_Md_doesAny.1.cls m_Md_doesAny.1 m_Md_doesAny.1 ∈ aw_T := aw_inP 139 (by decide +kernel) rfl
theorem d_Md_does_116 : decode m_Md_does.2.1 116 = .ok (.ireturn, 1) := by decide +kernel
theorem d_Md_passesBy_0 : decode m_Md_passesBy.2.1 0 = .ok (.aload_n 0, 1) := by decide +kernel
theorem d_Md_passesBy_1 : decode m_Md_passesBy.2.1 1 = .ok (.iload_n 1, 1) := by decide +kernel
theorem d_Md_passesBy_2 : decode m_Md_passesBy.2.1 2 = .ok (.iload_n 2, 1) := by decide +kernel
theorem d_Md_passesBy_3 : decode m_Md_passesBy.2.1 3 = .ok (.invokevirtual 352, 3) := by decide +kernel
theorem d_Md_passesBy_6 : decode m_Md_passesBy.2.1 6 = .ok (.istore_n 3, 1) := by decide +kernel
theorem d_Md_passesBy_7 : decode m_Md_passesBy.2.1 7 = .ok (.iload_n 3, 1) := by decide +kernel
theorem d_Md_passesBy_8 : decode m_Md_passesBy.2.1 8 = .ok (.ifCond .ne 5, 3) := by decide +kernel
theorem d_Md_passesBy_13 : decode m_Md_passesBy.2.1 13 = .ok (.aload_n 0, 1) := by decide +kernel
theorem d_Md_passesBy_14 : decode m_Md_passesBy.2.1 14 = .ok (.getfield 102, 3) := by decide +kernel
theorem d_Md_passesBy_17 : decode m_Md_passesBy.2.1 17 = .ok (.iconst 1, 1) := by decide +kernel
theorem d_Md_passesBy_18 : decode m_Md_passesBy.2.1 18 = .ok (.dup2, 1) := by decide +kernel
theorem d_Md_passesBy_19 : decode m_Md_passesBy.2.1 19 = .ok (.iaload, 1) := by decide +kernel
theorem d_Md_passesBy_20 : decode m_Md_passesBy.2.1 20 = .ok (.iconst 1, 1) := by decide +kernel
theorem d_Md_passesBy_21 : decode m_Md_passesBy.2.1 21 = .ok (.iadd, 1) := by decide +kernel
theorem d_Md_passesBy_22 : decode m_Md_passesBy.2.1 22 = .ok (.iastore, 1) := by decide +kernel
theorem d_Md_passesBy_23 : decode m_Md_passesBy.2.1 23 = .ok (.aload_n 0, 1) := by decide +kernel
theorem d_Md_passesBy_24 : decode m_Md_passesBy.2.1 24 = .ok (.getfield 102, 3) := by decide +kernel
theorem d_Md_passesBy_27 : decode m_Md_passesBy.2.1 27 = .ok (.iconst 1, 1) := by decide +kernel
theorem d_Md_passesBy_28 : decode m_Md_passesBy.2.1 28 = .ok (.iload_n 3, 1) := by decide +kernel
theorem d_Md_passesBy_29 : decode m_Md_passesBy.2.1 29 = .ok (.iadd, 1) := by decide +kernel
theorem d_Md_passesBy_30 : decode m_Md_passesBy.2.1 30 = .ok (.dup2, 1) := by decide +kernel
theorem d_Md_passesBy_31 : decode m_Md_passesBy.2.1 31 = .ok (.iaload, 1) := by decide +kernel
theorem d_Md_passesBy_32 : decode m_Md_passesBy.2.1 32 = .ok (.iconst 1, 1) := by decide +kernel
theorem d_Md_passesBy_33 : decode m_Md_passesBy.2.1 33 = .ok (.iadd, 1) := by decide +kernel
theorem d_Md_passesBy_34 : decode m_Md_passesBy.2.1 34 = .ok (.iastore, 1) := by decide +kernel
theorem d_Md_passesBy_35 : decode m_Md_passesBy.2.1 35 = .ok (.iconst 1, 1) := by decide +kernel
theorem d_Md_passesBy_36 : decode m_Md_passesBy.2.1 36 = .ok (.ireturn, 1) := by decide +kernel
theorem d_Md_passesBy_11 : decode m_Md_passesBy.2.1 11 = .ok (.iconst 0, 1) := by decide +kernel
theorem d_Md_passesBy_12 : decode m_Md_passesBy.2.1 12 = .ok (.ireturn, 1) := by decide +kernel
theorem d_Md_backBy_0 : decode m_Md_backBy.2.1 0 = .ok (.aload_n 0, 1) := by decide +kernel
theorem d_Md_backBy_1 : decode m_Md_backBy.2.1 1 = .ok (.invokevirtual 355, 3) := by decide +kernel
theorem d_Md_backBy_4 : decode m_Md_backBy.2.1 4 = .ok (.ifCond .ne 5, 3) := by decide +kernel
theorem d_Md_backBy_9 : decode m_Md_backBy.2.1 9 = .ok (.aload_n 0, 1) := by decide +kernel
theorem d_Md_backBy_10 : decode m_Md_backBy.2.1 10 = .ok (.getfield 102, 3) := by decide +kernel
theorem d_Md_backBy_13 : decode m_Md_backBy.2.1 13 = .ok (.iconst 1, 1) := by decide +kernel
theorem d_Md_backBy_14 : decode m_Md_backBy.2.1 14 = .ok (.dup2, 1) := by decide +kernel
theorem d_Md_backBy_15 : decode m_Md_backBy.2.1 15 = .ok (.iaload, 1) := by decide +kernel
theorem d_Md_backBy_16 : decode m_Md_backBy.2.1 16 = .ok (.iconst 1, 1) := by decide +kernel
theorem d_Md_backBy_17 : decode m_Md_backBy.2.1 17 = .ok (.iadd, 1) := by decide +kernel
theorem d_Md_backBy_18 : decode m_Md_backBy.2.1 18 = .ok (.iastore, 1) := by decide +kernel
theorem d_Md_backBy_19 : decode m_Md_backBy.2.1 19 = .ok (.aload_n 0, 1) := by decide +kernel
theorem d_Md_backBy_20 : decode m_Md_backBy.2.1 20 = .ok (.getfield 102, 3) := by decide +kernel
theorem d_Md_backBy_23 : decode m_Md_backBy.2.1 23 = .ok (.iconst 3, 1) := by decide +kernel
theorem d_Md_backBy_24 : decode m_Md_backBy.2.1 24 = .ok (.dup2, 1) := by decide +kernel
theorem d_Md_backBy_25 : decode m_Md_backBy.2.1 25 = .ok (.iaload, 1) := by decide +kernel
theorem d_Md_backBy_26 : decode m_Md_backBy.2.1 26 = .ok (.iconst 1, 1) := by decide +kernel
theorem d_Md_backBy_27 : decode m_Md_backBy.2.1 27 = .ok (.iadd, 1) := by decide +kernel
theorem d_Md_backBy_28 : decode m_Md_backBy.2.1 28 = .ok (.iastore, 1) := by decide +kernel
theorem d_Md_backBy_29 : decode m_Md_backBy.2.1 29 = .ok (.iconst 1, 1) := by decide +kernel
theorem d_Md_backBy_30 : decode m_Md_backBy.2.1 30 = .ok (.ireturn, 1) := by decide +kernel
theorem d_Md_backBy_7 : decode m_Md_backBy.2.1 7 = .ok (.iconst 0, 1) := by decide +kernel
theorem d_Md_backBy_8 : decode m_Md_backBy.2.1 8 = .ok (.ireturn, 1) := by decide +kernel
theorem d_Md_weavesBy_0 : decode m_Md_weavesBy.2.1 0 = .ok (.iconst 0, 1) := by decide +kernel
theorem d_Md_weavesBy_1 : decode m_Md_weavesBy.2.1 1 = .ok (.istore_n 2, 1) := by decide +kernel
theorem d_Md_weavesBy_2 : decode m_Md_weavesBy.2.1 2 = .ok (.iconst 0, 1) := by decide +kernel
theorem d_Md_weavesBy_3 : decode m_Md_weavesBy.2.1 3 = .ok (.istore_n 3, 1) := by decide +kernel
theorem d_Md_weavesBy_4 : decode m_Md_weavesBy.2.1 4 = .ok (.iload_n 3, 1) := by decide +kernel
theorem d_Md_weavesBy_5 : decode m_Md_weavesBy.2.1 5 = .ok (.iload_n 1, 1) := by decide +kernel
theorem d_Md_weavesBy_6 : decode m_Md_weavesBy.2.1 6 = .ok (.if_icmp .ge 42, 3) := by decide +kernel
theorem d_Md_weavesBy_48 : decode m_Md_weavesBy.2.1 48 = .ok (.aload_n 0, 1) := by decide +kernel
theorem d_Md_weavesBy_49 : decode m_Md_weavesBy.2.1 49 = .ok (.getfield 102, 3) := by decide +kernel
theorem d_Md_weavesBy_52 : decode m_Md_weavesBy.2.1 52 = .ok (.iconst 1, 1) := by decide +kernel
theorem d_Md_weavesBy_53 : decode m_Md_weavesBy.2.1 53 = .ok (.dup2, 1) := by decide +kernel
theorem d_Md_weavesBy_54 : decode m_Md_weavesBy.2.1 54 = .ok (.iaload, 1) := by decide +kernel
theorem d_Md_weavesBy_55 : decode m_Md_weavesBy.2.1 55 = .ok (.iload_n 2, 1) := by decide +kernel
theorem d_Md_weavesBy_56 : decode m_Md_weavesBy.2.1 56 = .ok (.iadd, 1) := by decide +kernel
theorem d_Md_weavesBy_57 : decode m_Md_weavesBy.2.1 57 = .ok (.iastore, 1) := by decide +kernel
theorem d_Md_weavesBy_58 : decode m_Md_weavesBy.2.1 58 = .ok (.iload_n 2, 1) := by decide +kernel
theorem d_Md_weavesBy_59 : decode m_Md_weavesBy.2.1 59 = .ok (.ifCond .le 7, 3) := by decide +kernel
theorem d_Md_weavesBy_66 : decode m_Md_weavesBy.2.1 66 = .ok (.iconst 0, 1) := by decide +kernel
theorem d_Md_weavesBy_67 : decode m_Md_weavesBy.2.1 67 = .ok (.ireturn, 1) := by decide +kernel
theorem d_Md_weavesBy_62 : decode m_Md_weavesBy.2.1 62 = .ok (.iconst 1, 1) := by decide +kernel
theorem d_Md_weavesBy_63 : decode m_Md_weavesBy.2.1 63 = .ok (.goto 4, 3) := by decide +kernel
theorem d_Md_weavesBy_9 : decode m_Md_weavesBy.2.1 9 = .ok (.iload_n 2, 1) := by decide +kernel
theorem d_Md_weavesBy_10 : decode m_Md_weavesBy.2.1 10 = .ok (.aload_n 0, 1) := by decide +kernel
theorem d_Md_weavesBy_11 : decode m_Md_weavesBy.2.1 11 = .ok (.invokevirtual 367, 3) := by decide +kernel
theorem d_Md_weavesBy_14 : decode m_Md_weavesBy.2.1 14 = .ok (.iadd, 1) := by decide +kernel
theorem d_Md_weavesBy_15 : decode m_Md_weavesBy.2.1 15 = .ok (.istore_n 2, 1) := by decide +kernel
theorem d_Md_weavesBy_16 : decode m_Md_weavesBy.2.1 16 = .ok (.aload_n 0, 1) := by decide +kernel
theorem d_Md_weavesBy_17 : decode m_Md_weavesBy.2.1 17 = .ok (.getfield 102, 3) := by decide +kernel
theorem d_Md_weavesBy_20 : decode m_Md_weavesBy.2.1 20 = .ok (.iconst 2, 1) := by decide +kernel
theorem d_Md_weavesBy_21 : decode m_Md_weavesBy.2.1 21 = .ok (.dup2, 1) := by decide +kernel
theorem d_Md_weavesBy_22 : decode m_Md_weavesBy.2.1 22 = .ok (.iaload, 1) := by decide +kernel
theorem d_Md_weavesBy_23 : decode m_Md_weavesBy.2.1 23 = .ok (.aload_n 0, 1) := by decide +kernel
theorem d_Md_weavesBy_24 : decode m_Md_weavesBy.2.1 24 = .ok (.getfield 358, 3) := by decide +kernel
theorem d_Md_weavesBy_27 : decode m_Md_weavesBy.2.1 27 = .ok (.iadd, 1) := by decide +kernel
theorem d_Md_weavesBy_28 : decode m_Md_weavesBy.2.1 28 = .ok (.iastore, 1) := by decide +kernel
theorem d_Md_weavesBy_29 : decode m_Md_weavesBy.2.1 29 = .ok (.aload_n 0, 1) := by decide +kernel
theorem d_Md_weavesBy_30 : decode m_Md_weavesBy.2.1 30 = .ok (.getfield 102, 3) := by decide +kernel
theorem d_Md_weavesBy_33 : decode m_Md_weavesBy.2.1 33 = .ok (.iconst 3, 1) := by decide +kernel
theorem d_Md_weavesBy_34 : decode m_Md_weavesBy.2.1 34 = .ok (.dup2, 1) := by decide +kernel
theorem d_Md_weavesBy_35 : decode m_Md_weavesBy.2.1 35 = .ok (.iaload, 1) := by decide +kernel
theorem d_Md_weavesBy_36 : decode m_Md_weavesBy.2.1 36 = .ok (.aload_n 0, 1) := by decide +kernel
theorem d_Md_weavesBy_37 : decode m_Md_weavesBy.2.1 37 = .ok (.getfield 361, 3) := by decide +kernel
theorem d_Md_weavesBy_40 : decode m_Md_weavesBy.2.1 40 = .ok (.iadd, 1) := by decide +kernel
theorem d_Md_weavesBy_41 : decode m_Md_weavesBy.2.1 41 = .ok (.iastore, 1) := by decide +kernel
theorem d_Md_weavesBy_42 : decode m_Md_weavesBy.2.1 42 = .ok (.iinc 3 1, 3) := by decide +kernel
theorem d_Md_weavesBy_45 : decode m_Md_weavesBy.2.1 45 = .ok (.goto (-41), 3) := by decide +kernel
theorem d_Md_doesAny_0 : decode m_Md_doesAny.2.1 0 = .ok (.aload_n 0, 1) := by decide +kernel
theorem d_Md_doesAny_1 : decode m_Md_doesAny.2.1 1 = .ok (.iconst 0, 1) := by decide +kernel
theorem d_Md_doesAny_2 : decode m_Md_doesAny.2.1 2 = .ok (.invokevirtual 260, 3) := by decide +kernel
theorem d_Md_doesAny_5 : decode m_Md_doesAny.2.1 5 = .ok (.ifCond .ne 5, 3) := by decide +kernel
theorem d_Md_doesAny_10 : decode m_Md_doesAny.2.1 10 = .ok (.aload_n 0, 1) := by decide +kernel
theorem d_Md_doesAny_11 : decode m_Md_doesAny.2.1 11 = .ok (.aload_n 0, 1) := by decide +kernel
theorem d_Md_doesAny_12 : decode m_Md_doesAny.2.1 12 = .ok (.iconst 0, 1) := by decide +kernel
theorem d_Md_doesAny_13 : decode m_Md_doesAny.2.1 13 = .ok (.invokevirtual 260, 3) := by decide +kernel
theorem d_Md_doesAny_16 : decode m_Md_doesAny.2.1 16 = .ok (.invokevirtual 487, 3) := by decide +kernel
abbrev m_Md_draw : aw_MI := (⟨"MaypoleGreenModel", "draw", "(I)I"⟩, prog_14_method_131_code, 2, some .int)
theorem lk_Md_487 : Cond.methodLink "MaypoleGreenModel" 487 m_Md_draw.1 ∈ aw_T := aw_in 1961 (by decide +kernel) rfl
theorem k_Md_draw : aw_K m_Md_draw 1 := ⟨aw_in 1964 (by decide +kernel) rfl, aw_in 16 (by decide +kernel) rfl, ⟨by decide, by decide, by decide +kernel⟩, by decide, by decide +kernel⟩
theorem in_Md_draw : Cond.instanceMethod m_Md_draw.1 ∈ aw_T := aw_in 1963 (by decide +kernel) rfl
theorem se_Md_draw : Cond.selects m_Md_draw.1.cls m_Md_draw.1 m_Md_draw.1 ∈ aw_T := aw_inP 140 (by decide +kernel) rfl
theorem d_Md_doesAny_19 : decode m_Md_doesAny.2.1 19 = .ok (.istore_n 1, 1) := by decide +kernel
theorem d_Md_doesAny_20 : decode m_Md_doesAny.2.1 20 = .ok (.aload_n 0, 1) := by decide +kernel
theorem d_Md_doesAny_21 : decode m_Md_doesAny.2.1 21 = .ok (.iconst 2, 1) := by decide +kernel
theorem d_Md_doesAny_22 : decode m_Md_doesAny.2.1 22 = .ok (.invokevirtual 487, 3) := by decide +kernel
theorem d_Md_doesAny_25 : decode m_Md_doesAny.2.1 25 = .ok (.istore_n 2, 1) := by decide +kernel
theorem d_Md_doesAny_26 : decode m_Md_doesAny.2.1 26 = .ok (.aload_n 0, 1) := by decide +kernel
theorem d_Md_doesAny_27 : decode m_Md_doesAny.2.1 27 = .ok (.iload_n 1, 1) := by decide +kernel
theorem d_Md_doesAny_28 : decode m_Md_doesAny.2.1 28 = .ok (.aload_n 0, 1) := by decide +kernel
theorem d_Md_doesAny_29 : decode m_Md_doesAny.2.1 29 = .ok (.bipush 16, 2) := by decide +kernel
theorem d_Md_doesAny_31 : decode m_Md_doesAny.2.1 31 = .ok (.invokevirtual 487, 3) := by decide +kernel
theorem d_Md_doesAny_34 : decode m_Md_doesAny.2.1 34 = .ok (.aload_n 0, 1) := by decide +kernel
theorem d_Md_doesAny_35 : decode m_Md_doesAny.2.1 35 = .ok (.getfield 7, 3) := by decide +kernel
theorem d_Md_doesAny_38 : decode m_Md_doesAny.2.1 38 = .ok (.iconst 1, 1) := by decide +kernel
theorem d_Md_doesAny_39 : decode m_Md_doesAny.2.1 39 = .ok (.iaload, 1) := by decide +kernel
theorem d_Md_doesAny_40 : decode m_Md_doesAny.2.1 40 = .ok (.if_icmp .ge 9, 3) := by decide +kernel
theorem d_Md_doesAny_49 : decode m_Md_doesAny.2.1 49 = .ok (.iload_n 2, 1) := by decide +kernel
theorem d_Md_doesAny_50 : decode m_Md_doesAny.2.1 50 = .ok (.invokevirtual 490, 3) := by decide +kernel
theorem d_Md_doesAny_53 : decode m_Md_doesAny.2.1 53 = .ok (.ireturn, 1) := by decide +kernel
theorem d_Md_doesAny_43 : decode m_Md_doesAny.2.1 43 = .ok (.iconst 1, 1) := by decide +kernel
theorem d_Md_doesAny_44 : decode m_Md_doesAny.2.1 44 = .ok (.iload_n 2, 1) := by decide +kernel
theorem d_Md_doesAny_45 : decode m_Md_doesAny.2.1 45 = .ok (.isub, 1) := by decide +kernel
theorem d_Md_doesAny_46 : decode m_Md_doesAny.2.1 46 = .ok (.goto 4, 3) := by decide +kernel
theorem d_Md_doesAny_8 : decode m_Md_doesAny.2.1 8 = .ok (.iconst 0, 1) := by decide +kernel
theorem d_Md_doesAny_9 : decode m_Md_doesAny.2.1 9 = .ok (.ireturn, 1) := by decide +kernel
theorem d_Md_draw_0 : decode m_Md_draw.2.1 0 = .ok (.aload_n 0, 1) := by decide +kernel
theorem d_Md_draw_1 : decode m_Md_draw.2.1 1 = .ok (.aload_n 0, 1) := by decide +kernel
theorem d_Md_draw_2 : decode m_Md_draw.2.1 2 = .ok (.getfield 483, 3) := by decide +kernel
theorem d_Md_draw_5 : decode m_Md_draw.2.1 5 = .ok (.sipush 3269, 3) := by decide +kernel
theorem d_Md_draw_8 : decode m_Md_draw.2.1 8 = .ok (.imul, 1) := by decide +kernel
theorem d_Md_draw_9 : decode m_Md_draw.2.1 9 = .ok (.sipush 11493, 3) := by decide +kernel
theorem d_Md_draw_12 : decode m_Md_draw.2.1 12 = .ok (.iadd, 1) := by decide +kernel
theorem d_Md_draw_13 : decode m_Md_draw.2.1 13 = .ok (.ldc_w 486, 3) := by decide +kernel
theorem cc_Md_486 : Cond.constant "MaypoleGreenModel" 486 (65536) ∈ aw_T := aw_in 1965 (by decide +kernel) rfl
theorem d_Md_draw_16 : decode m_Md_draw.2.1 16 = .ok (.irem, 1) := by decide +kernel
theorem d_Md_draw_17 : decode m_Md_draw.2.1 17 = .ok (.putfield 483, 3) := by decide +kernel
theorem d_Md_draw_20 : decode m_Md_draw.2.1 20 = .ok (.aload_n 0, 1) := by decide +kernel
theorem d_Md_draw_21 : decode m_Md_draw.2.1 21 = .ok (.getfield 483, 3) := by decide +kernel
theorem d_Md_draw_24 : decode m_Md_draw.2.1 24 = .ok (.bipush 8, 2) := by decide +kernel
theorem d_Md_draw_26 : decode m_Md_draw.2.1 26 = .ok (.idiv, 1) := by decide +kernel
theorem d_Md_draw_27 : decode m_Md_draw.2.1 27 = .ok (.iload_n 1, 1) := by decide +kernel
theorem d_Md_draw_28 : decode m_Md_draw.2.1 28 = .ok (.irem, 1) := by decide +kernel
theorem d_Md_draw_29 : decode m_Md_draw.2.1 29 = .ok (.ireturn, 1) := by decide +kernel
theorem d_Md_holds_0 : decode m_Md_holds.2.1 0 = .ok (.aload_n 0, 1) := by decide +kernel
theorem d_Md_holds_1 : decode m_Md_holds.2.1 1 = .ok (.getfield 7, 3) := by decide +kernel
theorem d_Md_holds_4 : decode m_Md_holds.2.1 4 = .ok (.iload_n 1, 1) := by decide +kernel
theorem d_Md_holds_5 : decode m_Md_holds.2.1 5 = .ok (.iconst 1, 1) := by decide +kernel
theorem d_Md_holds_6 : decode m_Md_holds.2.1 6 = .ok (.iadd, 1) := by decide +kernel
theorem d_Md_holds_7 : decode m_Md_holds.2.1 7 = .ok (.iaload, 1) := by decide +kernel
theorem d_Md_holds_8 : decode m_Md_holds.2.1 8 = .ok (.istore_n 2, 1) := by decide +kernel
theorem d_Md_holds_9 : decode m_Md_holds.2.1 9 = .ok (.aload_n 0, 1) := by decide +kernel
theorem d_Md_holds_10 : decode m_Md_holds.2.1 10 = .ok (.getfield 7, 3) := by decide +kernel
theorem d_Md_holds_13 : decode m_Md_holds.2.1 13 = .ok (.iload_n 1, 1) := by decide +kernel
theorem d_Md_holds_14 : decode m_Md_holds.2.1 14 = .ok (.iaload, 1) := by decide +kernel
theorem d_Md_holds_15 : decode m_Md_holds.2.1 15 = .ok (.sipush 1100, 3) := by decide +kernel
theorem d_Md_holds_18 : decode m_Md_holds.2.1 18 = .ok (.isub, 1) := by decide +kernel
theorem d_Md_holds_19 : decode m_Md_holds.2.1 19 = .ok (.tableswitch 84 15 17 #[25, 40, 62], 25) := by decide +kernel
theorem d_Md_holds_103 : decode m_Md_holds.2.1 103 = .ok (.aload_n 0, 1) := by decide +kernel
theorem d_Md_holds_104 : decode m_Md_holds.2.1 104 = .ok (.getfield 7, 3) := by decide +kernel
theorem d_Md_holds_107 : decode m_Md_holds.2.1 107 = .ok (.iconst 3, 1) := by decide +kernel
theorem d_Md_holds_108 : decode m_Md_holds.2.1 108 = .ok (.iaload, 1) := by decide +kernel
theorem d_Md_holds_109 : decode m_Md_holds.2.1 109 = .ok (.istore_n 3, 1) := by decide +kernel
theorem d_Md_holds_110 : decode m_Md_holds.2.1 110 = .ok (.aload_n 0, 1) := by decide +kernel
theorem d_Md_holds_111 : decode m_Md_holds.2.1 111 = .ok (.getfield 7, 3) := by decide +kernel
theorem d_Md_holds_114 : decode m_Md_holds.2.1 114 = .ok (.iload_n 1, 1) := by decide +kernel
theorem d_Md_holds_115 : decode m_Md_holds.2.1 115 = .ok (.iconst 5, 1) := by decide +kernel
theorem d_Md_holds_116 : decode m_Md_holds.2.1 116 = .ok (.iadd, 1) := by decide +kernel
theorem d_Md_holds_117 : decode m_Md_holds.2.1 117 = .ok (.iaload, 1) := by decide +kernel
theorem d_Md_holds_118 : decode m_Md_holds.2.1 118 = .ok (.bipush 60, 2) := by decide +kernel
theorem d_Md_holds_120 : decode m_Md_holds.2.1 120 = .ok (.if_icmp .ne 23, 3) := by decide +kernel
theorem d_Md_holds_143 : decode m_Md_holds.2.1 143 = .ok (.aload_n 0, 1) := by decide +kernel
theorem d_Md_holds_144 : decode m_Md_holds.2.1 144 = .ok (.getfield 7, 3) := by decide +kernel
theorem d_Md_holds_147 : decode m_Md_holds.2.1 147 = .ok (.iload_n 1, 1) := by decide +kernel
theorem d_Md_holds_148 : decode m_Md_holds.2.1 148 = .ok (.iconst 5, 1) := by decide +kernel
theorem d_Md_holds_149 : decode m_Md_holds.2.1 149 = .ok (.iadd, 1) := by decide +kernel
theorem d_Md_holds_150 : decode m_Md_holds.2.1 150 = .ok (.iaload, 1) := by decide +kernel
theorem d_Md_holds_151 : decode m_Md_holds.2.1 151 = .ok (.bipush 62, 2) := by decide +kernel
theorem d_Md_holds_153 : decode m_Md_holds.2.1 153 = .ok (.if_icmp .ne 23, 3) := by decide +kernel
theorem d_Md_holds_176 : decode m_Md_holds.2.1 176 = .ok (.iload_n 3, 1) := by decide +kernel
theorem d_Md_holds_177 : decode m_Md_holds.2.1 177 = .ok (.aload_n 0, 1) := by decide +kernel
theorem d_Md_holds_178 : decode m_Md_holds.2.1 178 = .ok (.getfield 7, 3) := by decide +kernel
theorem d_Md_holds_181 : decode m_Md_holds.2.1 181 = .ok (.iload_n 1, 1) := by decide +kernel
theorem d_Md_holds_182 : decode m_Md_holds.2.1 182 = .ok (.iconst 2, 1) := by decide +kernel
theorem d_Md_holds_183 : decode m_Md_holds.2.1 183 = .ok (.iadd, 1) := by decide +kernel
theorem d_Md_holds_184 : decode m_Md_holds.2.1 184 = .ok (.iaload, 1) := by decide +kernel
theorem d_Md_holds_185 : decode m_Md_holds.2.1 185 = .ok (.if_icmp .ne 7, 3) := by decide +kernel
theorem d_Md_holds_192 : decode m_Md_holds.2.1 192 = .ok (.iconst 0, 1) := by decide +kernel
theorem d_Md_holds_193 : decode m_Md_holds.2.1 193 = .ok (.ireturn, 1) := by decide +kernel
theorem d_Md_holds_188 : decode m_Md_holds.2.1 188 = .ok (.iconst 1, 1) := by decide +kernel
theorem d_Md_holds_189 : decode m_Md_holds.2.1 189 = .ok (.goto 4, 3) := by decide +kernel
theorem d_Md_holds_156 : decode m_Md_holds.2.1 156 = .ok (.iload_n 3, 1) := by decide +kernel
theorem d_Md_holds_157 : decode m_Md_holds.2.1 157 = .ok (.aload_n 0, 1) := by decide +kernel
theorem d_Md_holds_158 : decode m_Md_holds.2.1 158 = .ok (.getfield 7, 3) := by decide +kernel
theorem d_Md_holds_161 : decode m_Md_holds.2.1 161 = .ok (.iload_n 1, 1) := by decide +kernel
theorem d_Md_holds_162 : decode m_Md_holds.2.1 162 = .ok (.iconst 2, 1) := by decide +kernel
theorem d_Md_holds_163 : decode m_Md_holds.2.1 163 = .ok (.iadd, 1) := by decide +kernel
theorem d_Md_holds_164 : decode m_Md_holds.2.1 164 = .ok (.iaload, 1) := by decide +kernel
theorem d_Md_holds_165 : decode m_Md_holds.2.1 165 = .ok (.if_icmp .le 7, 3) := by decide +kernel
theorem d_Md_holds_172 : decode m_Md_holds.2.1 172 = .ok (.iconst 0, 1) := by decide +kernel
theorem d_Md_holds_173 : decode m_Md_holds.2.1 173 = .ok (.goto 20, 3) := by decide +kernel
theorem d_Md_holds_168 : decode m_Md_holds.2.1 168 = .ok (.iconst 1, 1) := by decide +kernel
theorem d_Md_holds_169 : decode m_Md_holds.2.1 169 = .ok (.goto 24, 3) := by decide +kernel
theorem d_Md_holds_123 : decode m_Md_holds.2.1 123 = .ok (.iload_n 3, 1) := by decide +kernel
theorem d_Md_holds_124 : decode m_Md_holds.2.1 124 = .ok (.aload_n 0, 1) := by decide +kernel
theorem d_Md_holds_125 : decode m_Md_holds.2.1 125 = .ok (.getfield 7, 3) := by decide +kernel
theorem d_Md_holds_128 : decode m_Md_holds.2.1 128 = .ok (.iload_n 1, 1) := by decide +kernel
theorem d_Md_holds_129 : decode m_Md_holds.2.1 129 = .ok (.iconst 2, 1) := by decide +kernel
theorem d_Md_holds_130 : decode m_Md_holds.2.1 130 = .ok (.iadd, 1) := by decide +kernel
theorem d_Md_holds_131 : decode m_Md_holds.2.1 131 = .ok (.iaload, 1) := by decide +kernel
theorem d_Md_holds_132 : decode m_Md_holds.2.1 132 = .ok (.if_icmp .ge 7, 3) := by decide +kernel
theorem d_Md_holds_139 : decode m_Md_holds.2.1 139 = .ok (.iconst 0, 1) := by decide +kernel
theorem d_Md_holds_140 : decode m_Md_holds.2.1 140 = .ok (.goto 53, 3) := by decide +kernel
theorem d_Md_holds_135 : decode m_Md_holds.2.1 135 = .ok (.iconst 1, 1) := by decide +kernel
theorem d_Md_holds_136 : decode m_Md_holds.2.1 136 = .ok (.goto 57, 3) := by decide +kernel
theorem d_Md_holds_44 : decode m_Md_holds.2.1 44 = .ok (.aload_n 0, 1) := by decide +kernel
theorem d_Md_holds_45 : decode m_Md_holds.2.1 45 = .ok (.iload_n 2, 1) := by decide +kernel
theorem d_Md_holds_46 : decode m_Md_holds.2.1 46 = .ok (.invokevirtual 337, 3) := by decide +kernel
theorem d_Md_holds_49 : decode m_Md_holds.2.1 49 = .ok (.iload_n 2, 1) := by decide +kernel
theorem d_Md_holds_50 : decode m_Md_holds.2.1 50 = .ok (.if_icmp .ne 7, 3) := by decide +kernel
theorem d_Md_holds_57 : decode m_Md_holds.2.1 57 = .ok (.iconst 0, 1) := by decide +kernel
theorem d_Md_holds_58 : decode m_Md_holds.2.1 58 = .ok (.ireturn, 1) := by decide +kernel
theorem d_Md_holds_53 : decode m_Md_holds.2.1 53 = .ok (.iconst 1, 1) := by decide +kernel
theorem d_Md_holds_54 : decode m_Md_holds.2.1 54 = .ok (.goto 4, 3) := by decide +kernel
theorem d_Md_holds_59 : decode m_Md_holds.2.1 59 = .ok (.aload_n 0, 1) := by decide +kernel
theorem d_Md_holds_60 : decode m_Md_holds.2.1 60 = .ok (.iload_n 2, 1) := by decide +kernel
theorem d_Md_holds_61 : decode m_Md_holds.2.1 61 = .ok (.invokevirtual 337, 3) := by decide +kernel
theorem d_Md_holds_64 : decode m_Md_holds.2.1 64 = .ok (.aload_n 0, 1) := by decide +kernel
theorem d_Md_holds_65 : decode m_Md_holds.2.1 65 = .ok (.getfield 7, 3) := by decide +kernel
theorem d_Md_holds_68 : decode m_Md_holds.2.1 68 = .ok (.iload_n 1, 1) := by decide +kernel
theorem d_Md_holds_69 : decode m_Md_holds.2.1 69 = .ok (.iconst 2, 1) := by decide +kernel
theorem d_Md_holds_70 : decode m_Md_holds.2.1 70 = .ok (.iadd, 1) := by decide +kernel
theorem d_Md_holds_71 : decode m_Md_holds.2.1 71 = .ok (.iaload, 1) := by decide +kernel
theorem d_Md_holds_72 : decode m_Md_holds.2.1 72 = .ok (.if_icmp .ne 7, 3) := by decide +kernel
theorem d_Md_holds_79 : decode m_Md_holds.2.1 79 = .ok (.iconst 0, 1) := by decide +kernel
theorem d_Md_holds_80 : decode m_Md_holds.2.1 80 = .ok (.ireturn, 1) := by decide +kernel
theorem d_Md_holds_75 : decode m_Md_holds.2.1 75 = .ok (.iconst 1, 1) := by decide +kernel
theorem d_Md_holds_76 : decode m_Md_holds.2.1 76 = .ok (.goto 4, 3) := by decide +kernel
theorem d_Md_holds_81 : decode m_Md_holds.2.1 81 = .ok (.aload_n 0, 1) := by decide +kernel
theorem d_Md_holds_82 : decode m_Md_holds.2.1 82 = .ok (.iload_n 2, 1) := by decide +kernel
theorem d_Md_holds_83 : decode m_Md_holds.2.1 83 = .ok (.invokevirtual 319, 3) := by decide +kernel
theorem d_Md_holds_86 : decode m_Md_holds.2.1 86 = .ok (.aload_n 0, 1) := by decide +kernel
theorem d_Md_holds_87 : decode m_Md_holds.2.1 87 = .ok (.getfield 7, 3) := by decide +kernel
theorem d_Md_holds_90 : decode m_Md_holds.2.1 90 = .ok (.iload_n 1, 1) := by decide +kernel
theorem d_Md_holds_91 : decode m_Md_holds.2.1 91 = .ok (.iconst 2, 1) := by decide +kernel
theorem d_Md_holds_92 : decode m_Md_holds.2.1 92 = .ok (.iadd, 1) := by decide +kernel
theorem d_Md_holds_93 : decode m_Md_holds.2.1 93 = .ok (.iaload, 1) := by decide +kernel
theorem d_Md_holds_94 : decode m_Md_holds.2.1 94 = .ok (.if_icmp .ne 7, 3) := by decide +kernel
theorem d_Md_holds_101 : decode m_Md_holds.2.1 101 = .ok (.iconst 0, 1) := by decide +kernel
theorem d_Md_holds_102 : decode m_Md_holds.2.1 102 = .ok (.ireturn, 1) := by decide +kernel
theorem d_Md_holds_97 : decode m_Md_holds.2.1 97 = .ok (.iconst 1, 1) := by decide +kernel
theorem d_Md_holds_98 : decode m_Md_holds.2.1 98 = .ok (.goto 4, 3) := by decide +kernel
theorem d_Md_behindEnds_0 : decode m_Md_behindEnds.2.1 0 = .ok (.iload_n 1, 1) := by decide +kernel
theorem d_Md_behindEnds_1 : decode m_Md_behindEnds.2.1 1 = .ok (.istore_n 2, 1) := by decide +kernel
theorem d_Md_behindEnds_2 : decode m_Md_behindEnds.2.1 2 = .ok (.iload_n 2, 1) := by decide +kernel
theorem d_Md_behindEnds_3 : decode m_Md_behindEnds.2.1 3 = .ok (.aload_n 0, 1) := by decide +kernel
theorem d_Md_behindEnds_4 : decode m_Md_behindEnds.2.1 4 = .ok (.getfield 7, 3) := by decide +kernel
theorem d_Md_behindEnds_7 : decode m_Md_behindEnds.2.1 7 = .ok (.iconst 5, 1) := by decide +kernel
theorem d_Md_behindEnds_8 : decode m_Md_behindEnds.2.1 8 = .ok (.iaload, 1) := by decide +kernel
theorem d_Md_behindEnds_9 : decode m_Md_behindEnds.2.1 9 = .ok (.if_icmp .ge 108, 3) := by decide +kernel
theorem d_Md_behindEnds_117 : decode m_Md_behindEnds.2.1 117 = .ok (.iload_n 2, 1) := by decide +kernel
theorem d_Md_behindEnds_118 : decode m_Md_behindEnds.2.1 118 = .ok (.ireturn, 1) := by decide +kernel
theorem d_Md_behindEnds_12 : decode m_Md_behindEnds.2.1 12 = .ok (.aload_n 0, 1) := by decide +kernel
theorem d_Md_behindEnds_13 : decode m_Md_behindEnds.2.1 13 = .ok (.getfield 7, 3) := by decide +kernel
theorem d_Md_behindEnds_16 : decode m_Md_behindEnds.2.1 16 = .ok (.sipush 184, 3) := by decide +kernel
theorem d_Md_behindEnds_19 : decode m_Md_behindEnds.2.1 19 = .ok (.bipush 6, 2) := by decide +kernel
theorem d_Md_behindEnds_21 : decode m_Md_behindEnds.2.1 21 = .ok (.iload_n 2, 1) := by decide +kernel
theorem d_Md_behindEnds_22 : decode m_Md_behindEnds.2.1 22 = .ok (.imul, 1) := by decide +kernel
theorem d_Md_behindEnds_23 : decode m_Md_behindEnds.2.1 23 = .ok (.iadd, 1) := by decide +kernel
theorem d_Md_behindEnds_24 : decode m_Md_behindEnds.2.1 24 = .ok (.iaload, 1) := by decide +kernel
theorem d_Md_behindEnds_25 : decode m_Md_behindEnds.2.1 25 = .ok (.bipush 13, 2) := by decide +kernel
theorem d_Md_behindEnds_27 : decode m_Md_behindEnds.2.1 27 = .ok (.if_icmp .ne 90, 3) := by decide +kernel
theorem d_Md_behindEnds_30 : decode m_Md_behindEnds.2.1 30 = .ok (.aload_n 0, 1) := by decide +kernel
theorem d_Md_behindEnds_31 : decode m_Md_behindEnds.2.1 31 = .ok (.getfield 7, 3) := by decide +kernel
theorem d_Md_behindEnds_34 : decode m_Md_behindEnds.2.1 34 = .ok (.sipush 184, 3) := by decide +kernel
theorem d_Md_behindEnds_37 : decode m_Md_behindEnds.2.1 37 = .ok (.bipush 6, 2) := by decide +kernel
theorem d_Md_behindEnds_39 : decode m_Md_behindEnds.2.1 39 = .ok (.iload_n 2, 1) := by decide +kernel
theorem d_Md_behindEnds_40 : decode m_Md_behindEnds.2.1 40 = .ok (.imul, 1) := by decide +kernel
theorem d_Md_behindEnds_41 : decode m_Md_behindEnds.2.1 41 = .ok (.iadd, 1) := by decide +kernel
theorem d_Md_behindEnds_42 : decode m_Md_behindEnds.2.1 42 = .ok (.iconst 4, 1) := by decide +kernel
theorem d_Md_behindEnds_43 : decode m_Md_behindEnds.2.1 43 = .ok (.iadd, 1) := by decide +kernel
theorem d_Md_behindEnds_44 : decode m_Md_behindEnds.2.1 44 = .ok (.iaload, 1) := by decide +kernel
theorem d_Md_behindEnds_45 : decode m_Md_behindEnds.2.1 45 = .ok (.istore_n 3, 1) := by decide +kernel
theorem d_Md_behindEnds_46 : decode m_Md_behindEnds.2.1 46 = .ok (.aload_n 0, 1) := by decide +kernel
theorem d_Md_behindEnds_47 : decode m_Md_behindEnds.2.1 47 = .ok (.getfield 7, 3) := by decide +kernel
theorem d_Md_behindEnds_50 : decode m_Md_behindEnds.2.1 50 = .ok (.sipush 184, 3) := by decide +kernel
theorem d_Md_behindEnds_53 : decode m_Md_behindEnds.2.1 53 = .ok (.bipush 6, 2) := by decide +kernel
theorem d_Md_behindEnds_55 : decode m_Md_behindEnds.2.1 55 = .ok (.iload_n 3, 1) := by decide +kernel
theorem d_Md_behindEnds_56 : decode m_Md_behindEnds.2.1 56 = .ok (.imul, 1) := by decide +kernel
theorem d_Md_behindEnds_57 : decode m_Md_behindEnds.2.1 57 = .ok (.iadd, 1) := by decide +kernel
theorem d_Md_behindEnds_58 : decode m_Md_behindEnds.2.1 58 = .ok (.iaload, 1) := by decide +kernel
theorem d_Md_behindEnds_59 : decode m_Md_behindEnds.2.1 59 = .ok (.bipush 12, 2) := by decide +kernel
theorem d_Md_behindEnds_61 : decode m_Md_behindEnds.2.1 61 = .ok (.if_icmp .ne 16, 3) := by decide +kernel
theorem d_Md_behindEnds_77 : decode m_Md_behindEnds.2.1 77 = .ok (.iconst 0, 1) := by decide +kernel
theorem d_Md_behindEnds_78 : decode m_Md_behindEnds.2.1 78 = .ok (.istore 4, 2) := by decide +kernel
theorem d_Md_behindEnds_80 : decode m_Md_behindEnds.2.1 80 = .ok (.aload_n 0, 1) := by decide +kernel
theorem d_Md_behindEnds_81 : decode m_Md_behindEnds.2.1 81 = .ok (.getfield 99, 3) := by decide +kernel
theorem d_Md_behindEnds_84 : decode m_Md_behindEnds.2.1 84 = .ok (.iload_n 3, 1) := by decide +kernel
theorem d_Md_behindEnds_85 : decode m_Md_behindEnds.2.1 85 = .ok (.dup2, 1) := by decide +kernel
theorem d_Md_behindEnds_86 : decode m_Md_behindEnds.2.1 86 = .ok (.iaload, 1) := by decide +kernel
theorem d_Md_behindEnds_87 : decode m_Md_behindEnds.2.1 87 = .ok (.iload 4, 2) := by decide +kernel
theorem d_Md_behindEnds_89 : decode m_Md_behindEnds.2.1 89 = .ok (.ifCond .eq 7, 3) := by decide +kernel
theorem d_Md_behindEnds_96 : decode m_Md_behindEnds.2.1 96 = .ok (.iconst 0, 1) := by decide +kernel
theorem d_Md_behindEnds_97 : decode m_Md_behindEnds.2.1 97 = .ok (.isub, 1) := by decide +kernel
theorem d_Md_behindEnds_98 : decode m_Md_behindEnds.2.1 98 = .ok (.iastore, 1) := by decide +kernel
theorem d_Md_behindEnds_99 : decode m_Md_behindEnds.2.1 99 = .ok (.iload 4, 2) := by decide +kernel
theorem d_Md_behindEnds_101 : decode m_Md_behindEnds.2.1 101 = .ok (.ifCond .eq 9, 3) := by decide +kernel
theorem d_Md_behindEnds_110 : decode m_Md_behindEnds.2.1 110 = .ok (.iload_n 2, 1) := by decide +kernel
theorem d_Md_behindEnds_111 : decode m_Md_behindEnds.2.1 111 = .ok (.iconst 1, 1) := by decide +kernel
theorem d_Md_behindEnds_112 : decode m_Md_behindEnds.2.1 112 = .ok (.iadd, 1) := by decide +kernel
theorem d_Md_behindEnds_113 : decode m_Md_behindEnds.2.1 113 = .ok (.istore_n 2, 1) := by decide +kernel
theorem d_Md_behindEnds_114 : decode m_Md_behindEnds.2.1 114 = .ok (.goto (-112), 3) := by decide +kernel
theorem d_Md_behindEnds_64 : decode m_Md_behindEnds.2.1 64 = .ok (.aload_n 0, 1) := by decide +kernel
theorem d_Md_behindEnds_65 : decode m_Md_behindEnds.2.1 65 = .ok (.getfield 99, 3) := by decide +kernel
theorem d_Md_behindEnds_68 : decode m_Md_behindEnds.2.1 68 = .ok (.iload_n 3, 1) := by decide +kernel
theorem d_Md_behindEnds_69 : decode m_Md_behindEnds.2.1 69 = .ok (.iaload, 1) := by decide +kernel
theorem d_Md_behindEnds_70 : decode m_Md_behindEnds.2.1 70 = .ok (.ifCond .le 7, 3) := by decide +kernel
theorem d_Md_behindEnds_73 : decode m_Md_behindEnds.2.1 73 = .ok (.iconst 1, 1) := by decide +kernel
theorem d_Md_behindEnds_74 : decode m_Md_behindEnds.2.1 74 = .ok (.goto 4, 3) := by decide +kernel
theorem d_Md_behindEnds_92 : decode m_Md_behindEnds.2.1 92 = .ok (.iconst 1, 1) := by decide +kernel
theorem d_Md_behindEnds_93 : decode m_Md_behindEnds.2.1 93 = .ok (.goto 4, 3) := by decide +kernel
theorem d_Md_behindEnds_104 : decode m_Md_behindEnds.2.1 104 = .ok (.iload_n 3, 1) := by decide +kernel
theorem d_Md_behindEnds_105 : decode m_Md_behindEnds.2.1 105 = .ok (.iconst 1, 1) := by decide +kernel
theorem d_Md_behindEnds_106 : decode m_Md_behindEnds.2.1 106 = .ok (.iadd, 1) := by decide +kernel
theorem d_Md_behindEnds_107 : decode m_Md_behindEnds.2.1 107 = .ok (.goto 6, 3) := by decide +kernel
abbrev m_Md_lived : aw_MI := (⟨"MaypoleGreenModel", "lived", "(I)I"⟩, prog_14_method_141_code, 2, some .int)
theorem k_Md_lived : aw_K m_Md_lived 1 := ⟨aw_in 1977 (by decide +kernel) rfl, aw_in 16 (by decide +kernel) rfl, ⟨by decide, by decide, by decide +kernel⟩, by decide, by decide +kernel⟩
theorem d_Md_lived_0 : decode m_Md_lived.2.1 0 = .ok (.iload_n 1, 1) := by decide +kernel
theorem d_Md_lived_1 : decode m_Md_lived.2.1 1 = .ok (.ifCond .lt 8, 3) := by decide +kernel
theorem d_Md_lived_9 : decode m_Md_lived.2.1 9 = .ok (.aload_n 0, 1) := by decide +kernel
theorem d_Md_lived_10 : decode m_Md_lived.2.1 10 = .ok (.iconst 1, 1) := by decide +kernel
theorem d_Md_lived_11 : decode m_Md_lived.2.1 11 = .ok (.invokevirtual 118, 3) := by decide +kernel
theorem d_Md_lived_14 : decode m_Md_lived.2.1 14 = .ok (.goto 29, 3) := by decide +kernel
theorem d_Md_lived_43 : decode m_Md_lived.2.1 43 = .ok (.ireturn, 1) := by decide +kernel
theorem d_Md_lived_4 : decode m_Md_lived.2.1 4 = .ok (.iload_n 1, 1) := by decide +kernel
theorem d_Md_lived_5 : decode m_Md_lived.2.1 5 = .ok (.iconst 4, 1) := by decide +kernel
theorem d_Md_lived_6 : decode m_Md_lived.2.1 6 = .ok (.if_icmp .le 11, 3) := by decide +kernel
theorem d_Md_lived_17 : decode m_Md_lived.2.1 17 = .ok (.aload_n 0, 1) := by decide +kernel
theorem d_Md_lived_18 : decode m_Md_lived.2.1 18 = .ok (.getfield 519, 3) := by decide +kernel
theorem d_Md_lived_21 : decode m_Md_lived.2.1 21 = .ok (.ifCond .eq 16, 3) := by decide +kernel
theorem d_Md_lived_37 : decode m_Md_lived.2.1 37 = .ok (.aload_n 0, 1) := by decide +kernel
theorem d_Md_lived_38 : decode m_Md_lived.2.1 38 = .ok (.bipush 6, 2) := by decide +kernel
theorem d_Md_lived_40 : decode m_Md_lived.2.1 40 = .ok (.invokevirtual 118, 3) := by decide +kernel
theorem d_Md_lived_24 : decode m_Md_lived.2.1 24 = .ok (.aload_n 0, 1) := by decide +kernel
theorem d_Md_lived_25 : decode m_Md_lived.2.1 25 = .ok (.aload_n 0, 1) := by decide +kernel
theorem d_Md_lived_26 : decode m_Md_lived.2.1 26 = .ok (.getfield 105, 3) := by decide +kernel
theorem d_Md_lived_29 : decode m_Md_lived.2.1 29 = .ok (.iload_n 1, 1) := by decide +kernel
theorem d_Md_lived_30 : decode m_Md_lived.2.1 30 = .ok (.iaload, 1) := by decide +kernel
theorem d_Md_lived_31 : decode m_Md_lived.2.1 31 = .ok (.invokevirtual 122, 3) := by decide +kernel
theorem d_Md_lived_34 : decode m_Md_lived.2.1 34 = .ok (.goto 9, 3) := by decide +kernel
abbrev m_Md_mean : aw_MI := (⟨"MaypoleGreenModel", "mean", "(II)Z"⟩, prog_14_method_142_code, 6, some .boolean)
theorem k_Md_mean : aw_K m_Md_mean 2 := ⟨aw_in 1981 (by decide +kernel) rfl, aw_in 16 (by decide +kernel) rfl, ⟨by decide, by decide, by decide +kernel⟩, by decide, by decide +kernel⟩
theorem d_Md_mean_0 : decode m_Md_mean.2.1 0 = .ok (.iload_n 1, 1) := by decide +kernel
theorem d_Md_mean_1 : decode m_Md_mean.2.1 1 = .ok (.i2l, 1) := by decide +kernel
theorem d_Md_mean_2 : decode m_Md_mean.2.1 2 = .ok (.lconst 0, 1) := by decide +kernel
theorem d_Md_mean_3 : decode m_Md_mean.2.1 3 = .ok (.ldc2_w 514, 3) := by decide +kernel
theorem d_Md_mean_6 : decode m_Md_mean.2.1 6 = .ok (.invokestatic 372, 3) := by decide +kernel
theorem d_Md_mean_9 : decode m_Md_mean.2.1 9 = .ok (.ifCond .eq 26, 3) := by decide +kernel
theorem d_Md_mean_35 : decode m_Md_mean.2.1 35 = .ok (.aload_n 0, 1) := by decide +kernel
theorem d_Md_mean_36 : decode m_Md_mean.2.1 36 = .ok (.iconst 1, 1) := by decide +kernel
theorem d_Md_mean_37 : decode m_Md_mean.2.1 37 = .ok (.invokevirtual 125, 3) := by decide +kernel
theorem d_Md_mean_40 : decode m_Md_mean.2.1 40 = .ok (.ireturn, 1) := by decide +kernel
theorem d_Md_mean_12 : decode m_Md_mean.2.1 12 = .ok (.iload_n 2, 1) := by decide +kernel
theorem d_Md_mean_13 : decode m_Md_mean.2.1 13 = .ok (.i2l, 1) := by decide +kernel
theorem d_Md_mean_14 : decode m_Md_mean.2.1 14 = .ok (.lconst 1, 1) := by decide +kernel
theorem d_Md_mean_15 : decode m_Md_mean.2.1 15 = .ok (.ldc2_w 436, 3) := by decide +kernel
theorem d_Md_mean_18 : decode m_Md_mean.2.1 18 = .ok (.invokestatic 372, 3) := by decide +kernel
theorem d_Md_mean_21 : decode m_Md_mean.2.1 21 = .ok (.ifCond .eq 14, 3) := by decide +kernel
theorem d_Md_mean_24 : decode m_Md_mean.2.1 24 = .ok (.iload_n 1, 1) := by decide +kernel
theorem d_Md_mean_25 : decode m_Md_mean.2.1 25 = .ok (.iload_n 2, 1) := by decide +kernel
theorem d_Md_mean_26 : decode m_Md_mean.2.1 26 = .ok (.iadd, 1) := by decide +kernel
theorem d_Md_mean_27 : decode m_Md_mean.2.1 27 = .ok (.iconst 1, 1) := by decide +kernel
theorem d_Md_mean_28 : decode m_Md_mean.2.1 28 = .ok (.isub, 1) := by decide +kernel
theorem d_Md_mean_29 : decode m_Md_mean.2.1 29 = .ok (.sipush 9999, 3) := by decide +kernel
theorem d_Md_mean_32 : decode m_Md_mean.2.1 32 = .ok (.if_icmp .le 9, 3) := by decide +kernel
theorem d_Md_mean_41 : decode m_Md_mean.2.1 41 = .ok (.aload_n 0, 1) := by decide +kernel
theorem d_Md_mean_42 : decode m_Md_mean.2.1 42 = .ok (.getfield 7, 3) := by decide +kernel
theorem d_Md_mean_45 : decode m_Md_mean.2.1 45 = .ok (.iconst 5, 1) := by decide +kernel
theorem d_Md_mean_46 : decode m_Md_mean.2.1 46 = .ok (.iaload, 1) := by decide +kernel
theorem d_Md_mean_47 : decode m_Md_mean.2.1 47 = .ok (.iconst (-1), 1) := by decide +kernel
theorem d_Md_mean_48 : decode m_Md_mean.2.1 48 = .ok (.if_icmp .ne 10, 3) := by decide +kernel
theorem d_Md_mean_58 : decode m_Md_mean.2.1 58 = .ok (.aload_n 0, 1) := by decide +kernel
theorem d_Md_mean_59 : decode m_Md_mean.2.1 59 = .ok (.sipush 2760, 3) := by decide +kernel
theorem d_Md_mean_62 : decode m_Md_mean.2.1 62 = .ok (.invokevirtual 451, 3) := by decide +kernel
theorem d_Md_mean_65 : decode m_Md_mean.2.1 65 = .ok (.lconst 0, 1) := by decide +kernel
theorem d_Md_mean_66 : decode m_Md_mean.2.1 66 = .ok (.lstore_n 3, 1) := by decide +kernel
theorem d_Md_mean_67 : decode m_Md_mean.2.1 67 = .ok (.iconst 0, 1) := by decide +kernel
theorem d_Md_mean_68 : decode m_Md_mean.2.1 68 = .ok (.istore 5, 2) := by decide +kernel
theorem d_Md_mean_51 : decode m_Md_mean.2.1 51 = .ok (.aload_n 0, 1) := by decide +kernel
theorem d_Md_mean_52 : decode m_Md_mean.2.1 52 = .ok (.bipush 6, 2) := by decide +kernel
theorem d_Md_mean_54 : decode m_Md_mean.2.1 54 = .ok (.invokevirtual 125, 3) := by decide +kernel
theorem d_Md_mean_57 : decode m_Md_mean.2.1 57 = .ok (.ireturn, 1) := by decide +kernel
theorem d_Md_mean_70 : decode m_Md_mean.2.1 70 = .ok (.iload 5, 2) := by decide +kernel
theorem d_Md_mean_72 : decode m_Md_mean.2.1 72 = .ok (.iload_n 2, 1) := by decide +kernel
theorem d_Md_mean_73 : decode m_Md_mean.2.1 73 = .ok (.if_icmp .ge 34, 3) := by decide +kernel
theorem d_Md_mean_107 : decode m_Md_mean.2.1 107 = .ok (.aload_n 0, 1) := by decide +kernel
theorem d_Md_mean_108 : decode m_Md_mean.2.1 108 = .ok (.lload_n 3, 1) := by decide +kernel
theorem d_Md_mean_109 : decode m_Md_mean.2.1 109 = .ok (.iload_n 2, 1) := by decide +kernel
theorem d_Md_mean_110 : decode m_Md_mean.2.1 110 = .ok (.i2l, 1) := by decide +kernel
theorem d_Md_mean_111 : decode m_Md_mean.2.1 111 = .ok (.invokevirtual 479, 3) := by decide +kernel
theorem d_Md_mean_114 : decode m_Md_mean.2.1 114 = .ok (.ireturn, 1) := by decide +kernel
theorem d_Md_mean_76 : decode m_Md_mean.2.1 76 = .ok (.aload_n 0, 1) := by decide +kernel
theorem d_Md_mean_77 : decode m_Md_mean.2.1 77 = .ok (.iload_n 1, 1) := by decide +kernel
theorem d_Md_mean_78 : decode m_Md_mean.2.1 78 = .ok (.iload 5, 2) := by decide +kernel
theorem d_Md_mean_80 : decode m_Md_mean.2.1 80 = .ok (.iadd, 1) := by decide +kernel
theorem d_Md_mean_81 : decode m_Md_mean.2.1 81 = .ok (.invokevirtual 516, 3) := by decide +kernel
theorem d_Md_mean_84 : decode m_Md_mean.2.1 84 = .ok (.lload_n 3, 1) := by decide +kernel
theorem d_Md_mean_85 : decode m_Md_mean.2.1 85 = .ok (.aload_n 0, 1) := by decide +kernel
theorem d_Md_mean_86 : decode m_Md_mean.2.1 86 = .ok (.getfield 7, 3) := by decide +kernel
theorem d_Md_mean_89 : decode m_Md_mean.2.1 89 = .ok (.iconst 3, 1) := by decide +kernel
theorem d_Md_mean_90 : decode m_Md_mean.2.1 90 = .ok (.iaload, 1) := by decide +kernel
theorem d_Md_mean_91 : decode m_Md_mean.2.1 91 = .ok (.i2l, 1) := by decide +kernel
theorem d_Md_mean_92 : decode m_Md_mean.2.1 92 = .ok (.ladd, 1) := by decide +kernel
theorem d_Md_mean_93 : decode m_Md_mean.2.1 93 = .ok (.lstore_n 3, 1) := by decide +kernel
theorem d_Md_mean_94 : decode m_Md_mean.2.1 94 = .ok (.aload_n 0, 1) := by decide +kernel
theorem d_Md_mean_95 : decode m_Md_mean.2.1 95 = .ok (.sipush 2760, 3) := by decide +kernel
theorem d_Md_mean_98 : decode m_Md_mean.2.1 98 = .ok (.invokevirtual 454, 3) := by decide +kernel
theorem d_Md_mean_101 : decode m_Md_mean.2.1 101 = .ok (.iinc 5 1, 3) := by decide +kernel
theorem d_Md_mean_104 : decode m_Md_mean.2.1 104 = .ok (.goto (-34), 3) := by decide +kernel
abbrev m_Md_mark : aw_MI := (⟨"MaypoleGreenModel", "mark", "()I"⟩, prog_14_method_144_code, 1, some .int)
theorem k_Md_mark : aw_K m_Md_mark 0 := ⟨aw_in 1985 (by decide +kernel) rfl, aw_in 16 (by decide +kernel) rfl, ⟨by decide, by decide, by decide +kernel⟩, by decide, by decide +kernel⟩
theorem d_Md_mark_0 : decode m_Md_mark.2.1 0 = .ok (.aload_n 0, 1) := by decide +kernel
theorem d_Md_mark_1 : decode m_Md_mark.2.1 1 = .ok (.getfield 523, 3) := by decide +kernel
theorem f_Md_523 : aw_F "MaypoleGreenModel" 523 11 51 false := ⟨cR11, cT11, 52, fun k => cY11.getD k .int, rfl, ci11, cy11, cn11, rfl, by decide, aw_in 1305 (by decide +kernel) rfl, rfl, rfl, rfl⟩
theorem d_Md_mark_4 : decode m_Md_mark.2.1 4 = .ok (.iconst 3, 1) := by decide +kernel
theorem d_Md_mark_5 : decode m_Md_mark.2.1 5 = .ok (.if_icmp .ne 9, 3) := by decide +kernel
theorem d_Md_mark_14 : decode m_Md_mark.2.1 14 = .ok (.aload_n 0, 1) := by decide +kernel
theorem d_Md_mark_15 : decode m_Md_mark.2.1 15 = .ok (.dup, 1) := by decide +kernel
theorem d_Md_mark_16 : decode m_Md_mark.2.1 16 = .ok (.getfield 523, 3) := by decide +kernel
theorem d_Md_mark_19 : decode m_Md_mark.2.1 19 = .ok (.iconst 1, 1) := by decide +kernel
theorem d_Md_mark_20 : decode m_Md_mark.2.1 20 = .ok (.iadd, 1) := by decide +kernel
theorem d_Md_mark_21 : decode m_Md_mark.2.1 21 = .ok (.putfield 523, 3) := by decide +kernel
theorem d_Md_mark_24 : decode m_Md_mark.2.1 24 = .ok (.aload_n 0, 1) := by decide +kernel
theorem d_Md_mark_25 : decode m_Md_mark.2.1 25 = .ok (.iconst 0, 1) := by decide +kernel
theorem d_Md_mark_26 : decode m_Md_mark.2.1 26 = .ok (.aload_n 0, 1) := by decide +kernel
theorem d_Md_mark_27 : decode m_Md_mark.2.1 27 = .ok (.getfield 523, 3) := by decide +kernel
theorem d_Md_mark_30 : decode m_Md_mark.2.1 30 = .ok (.invokevirtual 526, 3) := by decide +kernel
abbrev m_Md_copies : aw_MI := (⟨"MaypoleGreenModel", "copies", "(II)V"⟩, prog_14_method_143_code, 4, none)
theorem lk_Md_526 : Cond.methodLink "MaypoleGreenModel" 526 m_Md_copies.1 ∈ aw_T := aw_in 1986 (by decide +kernel) rfl
theorem k_Md_copies : aw_K m_Md_copies 2 := ⟨aw_in 1989 (by decide +kernel) rfl, aw_in 16 (by decide +kernel) rfl, ⟨by decide, by decide, by decide +kernel⟩, by decide, by decide +kernel⟩
theorem in_Md_copies : Cond.instanceMethod m_Md_copies.1 ∈ aw_T := aw_in 1988 (by decide +kernel) rfl
theorem se_Md_copies : Cond.selects m_Md_copies.1.cls m_Md_copies.1 m_Md_copies.1 ∈ aw_T := aw_inP 143 (by decide +kernel) rfl
theorem d_Md_mark_33 : decode m_Md_mark.2.1 33 = .ok (.aload_n 0, 1) := by decide +kernel
theorem d_Md_mark_34 : decode m_Md_mark.2.1 34 = .ok (.aload_n 0, 1) := by decide +kernel
theorem d_Md_mark_35 : decode m_Md_mark.2.1 35 = .ok (.getfield 523, 3) := by decide +kernel
theorem d_Md_mark_38 : decode m_Md_mark.2.1 38 = .ok (.invokevirtual 122, 3) := by decide +kernel
theorem d_Md_mark_41 : decode m_Md_mark.2.1 41 = .ok (.ireturn, 1) := by decide +kernel
theorem d_Md_mark_8 : decode m_Md_mark.2.1 8 = .ok (.aload_n 0, 1) := by decide +kernel
theorem d_Md_mark_9 : decode m_Md_mark.2.1 9 = .ok (.iconst 4, 1) := by decide +kernel
theorem d_Md_mark_10 : decode m_Md_mark.2.1 10 = .ok (.invokevirtual 118, 3) := by decide +kernel
theorem d_Md_mark_13 : decode m_Md_mark.2.1 13 = .ok (.ireturn, 1) := by decide +kernel
theorem d_Md_copies_0 : decode m_Md_copies.2.1 0 = .ok (.iconst 0, 1) := by decide +kernel
theorem d_Md_copies_1 : decode m_Md_copies.2.1 1 = .ok (.istore_n 3, 1) := by decide +kernel
theorem d_Md_copies_2 : decode m_Md_copies.2.1 2 = .ok (.iload_n 3, 1) := by decide +kernel
theorem d_Md_copies_3 : decode m_Md_copies.2.1 3 = .ok (.sipush 552, 3) := by decide +kernel
theorem d_Md_copies_6 : decode m_Md_copies.2.1 6 = .ok (.if_icmp .ge 33, 3) := by decide +kernel
theorem d_Md_copies_39 : decode m_Md_copies.2.1 39 = .ok (.iconst 0, 1) := by decide +kernel
theorem d_Md_copies_40 : decode m_Md_copies.2.1 40 = .ok (.istore_n 3, 1) := by decide +kernel
theorem d_Md_copies_9 : decode m_Md_copies.2.1 9 = .ok (.aload_n 0, 1) := by decide +kernel
theorem d_Md_copies_10 : decode m_Md_copies.2.1 10 = .ok (.getfield 7, 3) := by decide +kernel
theorem d_Md_copies_13 : decode m_Md_copies.2.1 13 = .ok (.sipush 552, 3) := by decide +kernel
theorem d_Md_copies_16 : decode m_Md_copies.2.1 16 = .ok (.iload_n 2, 1) := by decide +kernel
theorem d_Md_copies_17 : decode m_Md_copies.2.1 17 = .ok (.imul, 1) := by decide +kernel
theorem d_Md_copies_18 : decode m_Md_copies.2.1 18 = .ok (.iload_n 3, 1) := by decide +kernel
theorem d_Md_copies_19 : decode m_Md_copies.2.1 19 = .ok (.iadd, 1) := by decide +kernel
theorem d_Md_copies_20 : decode m_Md_copies.2.1 20 = .ok (.aload_n 0, 1) := by decide +kernel
theorem d_Md_copies_21 : decode m_Md_copies.2.1 21 = .ok (.getfield 7, 3) := by decide +kernel
theorem d_Md_copies_24 : decode m_Md_copies.2.1 24 = .ok (.sipush 552, 3) := by decide +kernel
theorem d_Md_copies_27 : decode m_Md_copies.2.1 27 = .ok (.iload_n 1, 1) := by decide +kernel
theorem d_Md_copies_28 : decode m_Md_copies.2.1 28 = .ok (.imul, 1) := by decide +kernel
theorem d_Md_copies_29 : decode m_Md_copies.2.1 29 = .ok (.iload_n 3, 1) := by decide +kernel
theorem d_Md_copies_30 : decode m_Md_copies.2.1 30 = .ok (.iadd, 1) := by decide +kernel
theorem d_Md_copies_31 : decode m_Md_copies.2.1 31 = .ok (.iaload, 1) := by decide +kernel
theorem d_Md_copies_32 : decode m_Md_copies.2.1 32 = .ok (.iastore, 1) := by decide +kernel
theorem d_Md_copies_33 : decode m_Md_copies.2.1 33 = .ok (.iinc 3 1, 3) := by decide +kernel
theorem d_Md_copies_36 : decode m_Md_copies.2.1 36 = .ok (.goto (-34), 3) := by decide +kernel
theorem d_Md_copies_41 : decode m_Md_copies.2.1 41 = .ok (.iload_n 3, 1) := by decide +kernel
theorem d_Md_copies_42 : decode m_Md_copies.2.1 42 = .ok (.bipush 7, 2) := by decide +kernel
theorem d_Md_copies_44 : decode m_Md_copies.2.1 44 = .ok (.if_icmp .ge 31, 3) := by decide +kernel
theorem d_Md_copies_75 : decode m_Md_copies.2.1 75 = .ok (.return_, 1) := by decide +kernel
theorem d_Md_copies_47 : decode m_Md_copies.2.1 47 = .ok (.aload_n 0, 1) := by decide +kernel
theorem d_Md_copies_48 : decode m_Md_copies.2.1 48 = .ok (.getfield 13, 3) := by decide +kernel
theorem d_Md_copies_51 : decode m_Md_copies.2.1 51 = .ok (.bipush 7, 2) := by decide +kernel
theorem d_Md_copies_53 : decode m_Md_copies.2.1 53 = .ok (.iload_n 2, 1) := by decide +kernel
theorem d_Md_copies_54 : decode m_Md_copies.2.1 54 = .ok (.imul, 1) := by decide +kernel
theorem d_Md_copies_55 : decode m_Md_copies.2.1 55 = .ok (.iload_n 3, 1) := by decide +kernel
theorem d_Md_copies_56 : decode m_Md_copies.2.1 56 = .ok (.iadd, 1) := by decide +kernel
theorem d_Md_copies_57 : decode m_Md_copies.2.1 57 = .ok (.aload_n 0, 1) := by decide +kernel
theorem d_Md_copies_58 : decode m_Md_copies.2.1 58 = .ok (.getfield 13, 3) := by decide +kernel
theorem d_Md_copies_61 : decode m_Md_copies.2.1 61 = .ok (.bipush 7, 2) := by decide +kernel
theorem d_Md_copies_63 : decode m_Md_copies.2.1 63 = .ok (.iload_n 1, 1) := by decide +kernel
theorem d_Md_copies_64 : decode m_Md_copies.2.1 64 = .ok (.imul, 1) := by decide +kernel
theorem d_Md_copies_65 : decode m_Md_copies.2.1 65 = .ok (.iload_n 3, 1) := by decide +kernel
theorem d_Md_copies_66 : decode m_Md_copies.2.1 66 = .ok (.iadd, 1) := by decide +kernel
theorem d_Md_copies_67 : decode m_Md_copies.2.1 67 = .ok (.laload, 1) := by decide +kernel
theorem d_Md_copies_68 : decode m_Md_copies.2.1 68 = .ok (.lastore, 1) := by decide +kernel
theorem d_Md_copies_69 : decode m_Md_copies.2.1 69 = .ok (.iinc 3 1, 3) := by decide +kernel
theorem d_Md_copies_72 : decode m_Md_copies.2.1 72 = .ok (.goto (-31), 3) := by decide +kernel
abbrev m_Md_undo : aw_MI := (⟨"MaypoleGreenModel", "undo", "()I"⟩, prog_14_method_145_code, 1, some .int)
theorem k_Md_undo : aw_K m_Md_undo 0 := ⟨aw_in 1993 (by decide +kernel) rfl, aw_in 16 (by decide +kernel) rfl, ⟨by decide, by decide, by decide +kernel⟩, by decide, by decide +kernel⟩
theorem d_Md_undo_0 : decode m_Md_undo.2.1 0 = .ok (.aload_n 0, 1) := by decide +kernel
theorem d_Md_undo_1 : decode m_Md_undo.2.1 1 = .ok (.getfield 523, 3) := by decide +kernel
theorem d_Md_undo_4 : decode m_Md_undo.2.1 4 = .ok (.ifCond .ne 10, 3) := by decide +kernel
theorem d_Md_undo_14 : decode m_Md_undo.2.1 14 = .ok (.aload_n 0, 1) := by decide +kernel
theorem d_Md_undo_15 : decode m_Md_undo.2.1 15 = .ok (.aload_n 0, 1) := by decide +kernel
theorem d_Md_undo_16 : decode m_Md_undo.2.1 16 = .ok (.getfield 523, 3) := by decide +kernel
theorem d_Md_undo_19 : decode m_Md_undo.2.1 19 = .ok (.iconst 0, 1) := by decide +kernel
theorem d_Md_undo_20 : decode m_Md_undo.2.1 20 = .ok (.invokevirtual 526, 3) := by decide +kernel
theorem d_Md_undo_23 : decode m_Md_undo.2.1 23 = .ok (.aload_n 0, 1) := by decide +kernel
theorem d_Md_undo_24 : decode m_Md_undo.2.1 24 = .ok (.dup, 1) := by decide +kernel
theorem d_Md_undo_25 : decode m_Md_undo.2.1 25 = .ok (.getfield 523, 3) := by decide +kernel
theorem d_Md_undo_28 : decode m_Md_undo.2.1 28 = .ok (.iconst 1, 1) := by decide +kernel
theorem d_Md_undo_29 : decode m_Md_undo.2.1 29 = .ok (.isub, 1) := by decide +kernel
theorem d_Md_undo_30 : decode m_Md_undo.2.1 30 = .ok (.putfield 523, 3) := by decide +kernel
theorem d_Md_undo_33 : decode m_Md_undo.2.1 33 = .ok (.aload_n 0, 1) := by decide +kernel
theorem d_Md_undo_34 : decode m_Md_undo.2.1 34 = .ok (.aload_n 0, 1) := by decide +kernel
theorem d_Md_undo_35 : decode m_Md_undo.2.1 35 = .ok (.getfield 523, 3) := by decide +kernel
theorem d_Md_undo_38 : decode m_Md_undo.2.1 38 = .ok (.invokevirtual 122, 3) := by decide +kernel
theorem d_Md_undo_41 : decode m_Md_undo.2.1 41 = .ok (.ireturn, 1) := by decide +kernel
theorem d_Md_undo_7 : decode m_Md_undo.2.1 7 = .ok (.aload_n 0, 1) := by decide +kernel
theorem d_Md_undo_8 : decode m_Md_undo.2.1 8 = .ok (.bipush 6, 2) := by decide +kernel
theorem d_Md_undo_10 : decode m_Md_undo.2.1 10 = .ok (.invokevirtual 118, 3) := by decide +kernel
theorem d_Md_undo_13 : decode m_Md_undo.2.1 13 = .ok (.ireturn, 1) := by decide +kernel
