abbrev m_Re_readGreen : aw_MI := (⟨"MaypoleGreen$Reader", "readGreen", "([BILMaypoleGreen$Green;)V"⟩, prog_10_method_2_code, 6, none)
theorem k_Re_readGreen : aw_K m_Re_readGreen 3 := ⟨aw_in 568 (by decide +kernel) rfl, aw_in 6 (by decide +kernel) rfl, ⟨by decide, by decide, by decide +kernel⟩, by decide, by decide +kernel⟩
theorem d_Re_readGreen_0 : decode m_Re_readGreen.2.1 0 = .ok (.aload_n 0, 1) := by decide +kernel
theorem d_Re_readGreen_1 : decode m_Re_readGreen.2.1 1 = .ok (.aload_n 3, 1) := by decide +kernel
theorem d_Re_readGreen_2 : decode m_Re_readGreen.2.1 2 = .ok (.putfield 22, 3) := by decide +kernel
theorem f_Re_22 : aw_F "MaypoleGreen$Reader" 22 5 3 false := ⟨cR5, cT5, 10, fun k => cY5.getD k .int, rfl, ci5, cy5, cn5, rfl, by decide, aw_in 292 (by decide +kernel) rfl, rfl, rfl, rfl⟩
theorem d_Re_readGreen_5 : decode m_Re_readGreen.2.1 5 = .ok (.aload_n 0, 1) := by decide +kernel
theorem d_Re_readGreen_6 : decode m_Re_readGreen.2.1 6 = .ok (.getfield 22, 3) := by decide +kernel
theorem d_Re_readGreen_9 : decode m_Re_readGreen.2.1 9 = .ok (.invokevirtual 26, 3) := by decide +kernel
theorem lk_Re_26 : Cond.methodLink "MaypoleGreen$Reader" 26 m_Gr_clear.1 ∈ aw_T := aw_in 569 (by decide +kernel) rfl
theorem in_Gr_clear : Cond.instanceMethod m_Gr_clear.1 ∈ aw_T := aw_in 570 (by decide +kernel) rfl
theorem se_Gr_clear : Cond.selects m_Gr_clear.1.cls m_Gr_clear.1 m_Gr_clear.1 ∈ aw_T := aw_in 571 (by decide +kernel) rfl
theorem d_Re_readGreen_12 : decode m_Re_readGreen.2.1 12 = .ok (.aload_n 0, 1) := by decide +kernel
theorem d_Re_readGreen_13 : decode m_Re_readGreen.2.1 13 = .ok (.iconst 0, 1) := by decide +kernel
theorem d_Re_readGreen_14 : decode m_Re_readGreen.2.1 14 = .ok (.putfield 31, 3) := by decide +kernel
theorem f_Re_31 : aw_F "MaypoleGreen$Reader" 31 5 5 false := ⟨cR5, cT5, 10, fun k => cY5.getD k .int, rfl, ci5, cy5, cn5, rfl, by decide, aw_in 294 (by decide +kernel) rfl, rfl, rfl, rfl⟩
theorem d_Re_readGreen_17 : decode m_Re_readGreen.2.1 17 = .ok (.aload_n 0, 1) := by decide +kernel
theorem d_Re_readGreen_18 : decode m_Re_readGreen.2.1 18 = .ok (.iconst 0, 1) := by decide +kernel
theorem d_Re_readGreen_19 : decode m_Re_readGreen.2.1 19 = .ok (.putfield 35, 3) := by decide +kernel
theorem f_Re_35 : aw_F "MaypoleGreen$Reader" 35 5 6 false := ⟨cR5, cT5, 10, fun k => cY5.getD k .int, rfl, ci5, cy5, cn5, rfl, by decide, aw_in 295 (by decide +kernel) rfl, rfl, rfl, rfl⟩
theorem d_Re_readGreen_22 : decode m_Re_readGreen.2.1 22 = .ok (.aload_n 0, 1) := by decide +kernel
theorem d_Re_readGreen_23 : decode m_Re_readGreen.2.1 23 = .ok (.iconst 0, 1) := by decide +kernel
theorem d_Re_readGreen_24 : decode m_Re_readGreen.2.1 24 = .ok (.putfield 38, 3) := by decide +kernel
theorem f_Re_38 : aw_F "MaypoleGreen$Reader" 38 5 7 false := ⟨cR5, cT5, 10, fun k => cY5.getD k .int, rfl, ci5, cy5, cn5, rfl, by decide, aw_in 296 (by decide +kernel) rfl, rfl, rfl, rfl⟩
theorem d_Re_readGreen_27 : decode m_Re_readGreen.2.1 27 = .ok (.aload_n 0, 1) := by decide +kernel
theorem d_Re_readGreen_28 : decode m_Re_readGreen.2.1 28 = .ok (.getfield 12, 3) := by decide +kernel
theorem f_Re_12 : aw_F "MaypoleGreen$Reader" 12 5 2 true := ⟨cR5, cT5, 10, fun k => cY5.getD k .int, rfl, ci5, cy5, cn5, rfl, by decide, aw_in 291 (by decide +kernel) rfl, rfl, rfl, rfl⟩
theorem d_Re_readGreen_31 : decode m_Re_readGreen.2.1 31 = .ok (.aload_n 1, 1) := by decide +kernel
theorem d_Re_readGreen_32 : decode m_Re_readGreen.2.1 32 = .ok (.iload_n 2, 1) := by decide +kernel
theorem d_Re_readGreen_33 : decode m_Re_readGreen.2.1 33 = .ok (.invokevirtual 41, 3) := by decide +kernel
theorem lk_Re_41 : Cond.methodLink "MaypoleGreen$Reader" 41 m_To_begin.1 ∈ aw_T := aw_in 581 (by decide +kernel) rfl
theorem in_To_begin : Cond.instanceMethod m_To_begin.1 ∈ aw_T := aw_in 582 (by decide +kernel) rfl
theorem se_To_begin : Cond.selects m_To_begin.1.cls m_To_begin.1 m_To_begin.1 ∈ aw_T := aw_in 583 (by decide +kernel) rfl
theorem d_Re_readGreen_36 : decode m_Re_readGreen.2.1 36 = .ok (.iconst 1, 1) := by decide +kernel
theorem d_Re_readGreen_37 : decode m_Re_readGreen.2.1 37 = .ok (.istore 4, 2) := by decide +kernel
theorem d_Re_readGreen_39 : decode m_Re_readGreen.2.1 39 = .ok (.iconst 0, 1) := by decide +kernel
theorem d_Re_readGreen_40 : decode m_Re_readGreen.2.1 40 = .ok (.istore 5, 2) := by decide +kernel
theorem d_Re_readGreen_42 : decode m_Re_readGreen.2.1 42 = .ok (.iload 5, 2) := by decide +kernel
theorem d_Re_readGreen_44 : decode m_Re_readGreen.2.1 44 = .ok (.iload_n 2, 1) := by decide +kernel
theorem d_Re_readGreen_45 : decode m_Re_readGreen.2.1 45 = .ok (.if_icmp .gt 30, 3) := by decide +kernel
theorem d_Re_readGreen_75 : decode m_Re_readGreen.2.1 75 = .ok (.aload_n 0, 1) := by decide +kernel
theorem d_Re_readGreen_76 : decode m_Re_readGreen.2.1 76 = .ok (.getfield 22, 3) := by decide +kernel
theorem d_Re_readGreen_79 : decode m_Re_readGreen.2.1 79 = .ok (.invokevirtual 53, 3) := by decide +kernel
theorem lk_Re_53 : Cond.methodLink "MaypoleGreen$Reader" 53 m_Gr_forgetDone.1 ∈ aw_T := aw_in 717 (by decide +kernel) rfl
theorem d_Re_readGreen_82 : decode m_Re_readGreen.2.1 82 = .ok (.aload_n 0, 1) := by decide +kernel
theorem d_Re_readGreen_83 : decode m_Re_readGreen.2.1 83 = .ok (.invokevirtual 56, 3) := by decide +kernel
abbrev m_Re_closeReading : aw_MI := (⟨"MaypoleGreen$Reader", "closeReading", "()V"⟩, prog_10_method_4_code, 1, none)
theorem lk_Re_56 : Cond.methodLink "MaypoleGreen$Reader" 56 m_Re_closeReading.1 ∈ aw_T := aw_in 718 (by decide +kernel) rfl
theorem k_Re_closeReading : aw_K m_Re_closeReading 0 := ⟨aw_in 721 (by decide +kernel) rfl, aw_in 6 (by decide +kernel) rfl, ⟨by decide, by decide, by decide +kernel⟩, by decide, by decide +kernel⟩
theorem in_Re_closeReading : Cond.instanceMethod m_Re_closeReading.1 ∈ aw_T := aw_in 720 (by decide +kernel) rfl
theorem se_Re_closeReading : Cond.selects m_Re_closeReading.1.cls m_Re_closeReading.1 m_Re_closeReading.1 ∈ aw_T := aw_inP 17 (by decide +kernel) rfl
theorem d_Re_readGreen_86 : decode m_Re_readGreen.2.1 86 = .ok (.return_, 1) := by decide +kernel
theorem d_Re_readGreen_48 : decode m_Re_readGreen.2.1 48 = .ok (.iload 4, 2) := by decide +kernel
theorem d_Re_readGreen_50 : decode m_Re_readGreen.2.1 50 = .ok (.ifCond .eq 25, 3) := by decide +kernel
theorem d_Re_readGreen_53 : decode m_Re_readGreen.2.1 53 = .ok (.aload_n 0, 1) := by decide +kernel
theorem d_Re_readGreen_54 : decode m_Re_readGreen.2.1 54 = .ok (.getfield 12, 3) := by decide +kernel
theorem d_Re_readGreen_57 : decode m_Re_readGreen.2.1 57 = .ok (.getfield 45, 3) := by decide +kernel
theorem f_Re_45 : aw_F "MaypoleGreen$Reader" 45 6 2 false := ⟨cR6, cT6, 11, fun k => cY6.getD k .int, rfl, ci6, cy6, cn6, rfl, by decide, aw_in 252 (by decide +kernel) rfl, rfl, rfl, rfl⟩
theorem d_Re_readGreen_60 : decode m_Re_readGreen.2.1 60 = .ok (.ifCond .eq 15, 3) := by decide +kernel
theorem d_Re_readGreen_63 : decode m_Re_readGreen.2.1 63 = .ok (.aload_n 0, 1) := by decide +kernel
theorem d_Re_readGreen_64 : decode m_Re_readGreen.2.1 64 = .ok (.invokevirtual 49, 3) := by decide +kernel
abbrev m_Re_takePart : aw_MI := (⟨"MaypoleGreen$Reader", "takePart", "()Z"⟩, prog_10_method_5_code, 1, some .boolean)
theorem lk_Re_49 : Cond.methodLink "MaypoleGreen$Reader" 49 m_Re_takePart.1 ∈ aw_T := aw_in 597 (by decide +kernel) rfl
theorem k_Re_takePart : aw_K m_Re_takePart 0 := ⟨aw_in 600 (by decide +kernel) rfl, aw_in 6 (by decide +kernel) rfl, ⟨by decide, by decide, by decide +kernel⟩, by decide, by decide +kernel⟩
theorem in_Re_takePart : Cond.instanceMethod m_Re_takePart.1 ∈ aw_T := aw_in 599 (by decide +kernel) rfl
theorem se_Re_takePart : Cond.selects m_Re_takePart.1.cls m_Re_takePart.1 m_Re_takePart.1 ∈ aw_T := aw_inP 8 (by decide +kernel) rfl
theorem d_Re_readGreen_67 : decode m_Re_readGreen.2.1 67 = .ok (.istore 4, 2) := by decide +kernel
theorem d_Re_readGreen_69 : decode m_Re_readGreen.2.1 69 = .ok (.iinc 5 1, 3) := by decide +kernel
theorem d_Re_readGreen_72 : decode m_Re_readGreen.2.1 72 = .ok (.goto (-30), 3) := by decide +kernel
theorem d_Re_takePart_0 : decode m_Re_takePart.2.1 0 = .ok (.aload_n 0, 1) := by decide +kernel
theorem d_Re_takePart_1 : decode m_Re_takePart.2.1 1 = .ok (.getfield 12, 3) := by decide +kernel
theorem d_Re_takePart_4 : decode m_Re_takePart.2.1 4 = .ok (.invokevirtual 72, 3) := by decide +kernel
theorem lk_Re_72 : Cond.methodLink "MaypoleGreen$Reader" 72 m_To_reservedWord.1 ∈ aw_T := aw_in 601 (by decide +kernel) rfl
theorem d_Re_takePart_7 : decode m_Re_takePart.2.1 7 = .ok (.tableswitch 53 0 4 #[33, 38, 43, 53, 48], 33) := by decide +kernel
theorem d_Re_takePart_60 : decode m_Re_takePart.2.1 60 = .ok (.aload_n 0, 1) := by decide +kernel
theorem d_Re_takePart_61 : decode m_Re_takePart.2.1 61 = .ok (.getfield 12, 3) := by decide +kernel
theorem d_Re_takePart_64 : decode m_Re_takePart.2.1 64 = .ok (.iconst 2, 1) := by decide +kernel
theorem d_Re_takePart_65 : decode m_Re_takePart.2.1 65 = .ok (.invokevirtual 82, 3) := by decide +kernel
theorem lk_Re_82 : Cond.methodLink "MaypoleGreen$Reader" 82 m_To_blame.1 ∈ aw_T := aw_in 609 (by decide +kernel) rfl
theorem d_Re_takePart_68 : decode m_Re_takePart.2.1 68 = .ok (.ireturn, 1) := by decide +kernel
theorem d_Re_takePart_40 : decode m_Re_takePart.2.1 40 = .ok (.aload_n 0, 1) := by decide +kernel
theorem d_Re_takePart_41 : decode m_Re_takePart.2.1 41 = .ok (.invokevirtual 94, 3) := by decide +kernel
abbrev m_Re_takeOdds : aw_MI := (⟨"MaypoleGreen$Reader", "takeOdds", "()Z"⟩, prog_10_method_6_code, 2, some .boolean)
theorem lk_Re_94 : Cond.methodLink "MaypoleGreen$Reader" 94 m_Re_takeOdds.1 ∈ aw_T := aw_in 605 (by decide +kernel) rfl
theorem k_Re_takeOdds : aw_K m_Re_takeOdds 0 := ⟨aw_in 608 (by decide +kernel) rfl, aw_in 6 (by decide +kernel) rfl, ⟨by decide, by decide, by decide +kernel⟩, by decide, by decide +kernel⟩
theorem in_Re_takeOdds : Cond.instanceMethod m_Re_takeOdds.1 ∈ aw_T := aw_in 607 (by decide +kernel) rfl
theorem se_Re_takeOdds : Cond.selects m_Re_takeOdds.1.cls m_Re_takeOdds.1 m_Re_takeOdds.1 ∈ aw_T := aw_inP 9 (by decide +kernel) rfl
theorem d_Re_takePart_44 : decode m_Re_takePart.2.1 44 = .ok (.ireturn, 1) := by decide +kernel
theorem d_Re_takePart_45 : decode m_Re_takePart.2.1 45 = .ok (.aload_n 0, 1) := by decide +kernel
theorem d_Re_takePart_46 : decode m_Re_takePart.2.1 46 = .ok (.invokevirtual 97, 3) := by decide +kernel
abbrev m_Re_takeLong : aw_MI := (⟨"MaypoleGreen$Reader", "takeLong", "()Z"⟩, prog_10_method_7_code, 2, some .boolean)
theorem lk_Re_97 : Cond.methodLink "MaypoleGreen$Reader" 97 m_Re_takeLong.1 ∈ aw_T := aw_in 624 (by decide +kernel) rfl
theorem k_Re_takeLong : aw_K m_Re_takeLong 0 := ⟨aw_in 627 (by decide +kernel) rfl, aw_in 6 (by decide +kernel) rfl, ⟨by decide, by decide, by decide +kernel⟩, by decide, by decide +kernel⟩
theorem in_Re_takeLong : Cond.instanceMethod m_Re_takeLong.1 ∈ aw_T := aw_in 626 (by decide +kernel) rfl
theorem se_Re_takeLong : Cond.selects m_Re_takeLong.1.cls m_Re_takeLong.1 m_Re_takeLong.1 ∈ aw_T := aw_inP 10 (by decide +kernel) rfl
theorem d_Re_takePart_49 : decode m_Re_takePart.2.1 49 = .ok (.ireturn, 1) := by decide +kernel
theorem d_Re_takePart_50 : decode m_Re_takePart.2.1 50 = .ok (.aload_n 0, 1) := by decide +kernel
theorem d_Re_takePart_51 : decode m_Re_takePart.2.1 51 = .ok (.invokevirtual 100, 3) := by decide +kernel
abbrev m_Re_takeDancer : aw_MI := (⟨"MaypoleGreen$Reader", "takeDancer", "()Z"⟩, prog_10_method_8_code, 4, some .boolean)
theorem lk_Re_100 : Cond.methodLink "MaypoleGreen$Reader" 100 m_Re_takeDancer.1 ∈ aw_T := aw_in 628 (by decide +kernel) rfl
theorem k_Re_takeDancer : aw_K m_Re_takeDancer 0 := ⟨aw_in 631 (by decide +kernel) rfl, aw_in 6 (by decide +kernel) rfl, ⟨by decide, by decide, by decide +kernel⟩, by decide, by decide +kernel⟩
theorem in_Re_takeDancer : Cond.instanceMethod m_Re_takeDancer.1 ∈ aw_T := aw_in 630 (by decide +kernel) rfl
theorem se_Re_takeDancer : Cond.selects m_Re_takeDancer.1.cls m_Re_takeDancer.1 m_Re_takeDancer.1 ∈ aw_T := aw_inP 11 (by decide +kernel) rfl
theorem d_Re_takePart_54 : decode m_Re_takePart.2.1 54 = .ok (.ireturn, 1) := by decide +kernel
theorem d_Re_takePart_55 : decode m_Re_takePart.2.1 55 = .ok (.aload_n 0, 1) := by decide +kernel
theorem d_Re_takePart_56 : decode m_Re_takePart.2.1 56 = .ok (.invokevirtual 103, 3) := by decide +kernel
abbrev m_Re_takeTextPass : aw_MI := (⟨"MaypoleGreen$Reader", "takeTextPass", "()Z"⟩, prog_10_method_9_code, 3, some .boolean)
theorem lk_Re_103 : Cond.methodLink "MaypoleGreen$Reader" 103 m_Re_takeTextPass.1 ∈ aw_T := aw_in 649 (by decide +kernel) rfl
theorem k_Re_takeTextPass : aw_K m_Re_takeTextPass 0 := ⟨aw_in 652 (by decide +kernel) rfl, aw_in 6 (by decide +kernel) rfl, ⟨by decide, by decide, by decide +kernel⟩, by decide, by decide +kernel⟩
theorem in_Re_takeTextPass : Cond.instanceMethod m_Re_takeTextPass.1 ∈ aw_T := aw_in 651 (by decide +kernel) rfl
theorem se_Re_takeTextPass : Cond.selects m_Re_takeTextPass.1.cls m_Re_takeTextPass.1 m_Re_takeTextPass.1 ∈ aw_T := aw_inP 12 (by decide +kernel) rfl
theorem d_Re_takePart_59 : decode m_Re_takePart.2.1 59 = .ok (.ireturn, 1) := by decide +kernel
theorem d_Re_takeOdds_0 : decode m_Re_takeOdds.2.1 0 = .ok (.aload_n 0, 1) := by decide +kernel
theorem d_Re_takeOdds_1 : decode m_Re_takeOdds.2.1 1 = .ok (.getfield 31, 3) := by decide +kernel
theorem d_Re_takeOdds_4 : decode m_Re_takeOdds.2.1 4 = .ok (.ifCond .eq 12, 3) := by decide +kernel
theorem d_Re_takeOdds_16 : decode m_Re_takeOdds.2.1 16 = .ok (.aload_n 0, 1) := by decide +kernel
theorem d_Re_takeOdds_17 : decode m_Re_takeOdds.2.1 17 = .ok (.iconst 1, 1) := by decide +kernel
theorem d_Re_takeOdds_18 : decode m_Re_takeOdds.2.1 18 = .ok (.putfield 31, 3) := by decide +kernel
theorem d_Re_takeOdds_21 : decode m_Re_takeOdds.2.1 21 = .ok (.aload_n 0, 1) := by decide +kernel
theorem d_Re_takeOdds_22 : decode m_Re_takeOdds.2.1 22 = .ok (.getfield 12, 3) := by decide +kernel
theorem d_Re_takeOdds_25 : decode m_Re_takeOdds.2.1 25 = .ok (.invokevirtual 106, 3) := by decide +kernel
theorem lk_Re_106 : Cond.methodLink "MaypoleGreen$Reader" 106 m_To_advance.1 ∈ aw_T := aw_in 613 (by decide +kernel) rfl
theorem d_Re_takeOdds_28 : decode m_Re_takeOdds.2.1 28 = .ok (.aload_n 0, 1) := by decide +kernel
theorem d_Re_takeOdds_29 : decode m_Re_takeOdds.2.1 29 = .ok (.getfield 12, 3) := by decide +kernel
theorem d_Re_takeOdds_32 : decode m_Re_takeOdds.2.1 32 = .ok (.iconst 0, 1) := by decide +kernel
theorem d_Re_takeOdds_33 : decode m_Re_takeOdds.2.1 33 = .ok (.bipush 16, 2) := by decide +kernel
theorem d_Re_takeOdds_35 : decode m_Re_takeOdds.2.1 35 = .ok (.invokevirtual 109, 3) := by decide +kernel
theorem lk_Re_109 : Cond.methodLink "MaypoleGreen$Reader" 109 m_To_takeNumber.1 ∈ aw_T := aw_in 614 (by decide +kernel) rfl
theorem in_To_takeNumber : Cond.instanceMethod m_To_takeNumber.1 ∈ aw_T := aw_in 615 (by decide +kernel) rfl
theorem se_To_takeNumber : Cond.selects m_To_takeNumber.1.cls m_To_takeNumber.1 m_To_takeNumber.1 ∈ aw_T := aw_in 616 (by decide +kernel) rfl
theorem d_Re_takeOdds_38 : decode m_Re_takeOdds.2.1 38 = .ok (.istore_n 1, 1) := by decide +kernel
theorem d_Re_takeOdds_39 : decode m_Re_takeOdds.2.1 39 = .ok (.iload_n 1, 1) := by decide +kernel
theorem d_Re_takeOdds_40 : decode m_Re_takeOdds.2.1 40 = .ok (.iconst (-1), 1) := by decide +kernel
theorem d_Re_takeOdds_41 : decode m_Re_takeOdds.2.1 41 = .ok (.if_icmp .ne 5, 3) := by decide +kernel
theorem d_Re_takeOdds_46 : decode m_Re_takeOdds.2.1 46 = .ok (.aload_n 0, 1) := by decide +kernel
theorem d_Re_takeOdds_47 : decode m_Re_takeOdds.2.1 47 = .ok (.getfield 22, 3) := by decide +kernel
theorem d_Re_takeOdds_50 : decode m_Re_takeOdds.2.1 50 = .ok (.iload_n 1, 1) := by decide +kernel
theorem d_Re_takeOdds_51 : decode m_Re_takeOdds.2.1 51 = .ok (.putfield 113, 3) := by decide +kernel
theorem f_Re_113 : aw_F "MaypoleGreen$Reader" 113 2 1 false := ⟨cR2, cT2, 13, fun k => cY2.getD k .int, rfl, ci2, cy2, cn2, rfl, by decide, aw_in 129 (by decide +kernel) rfl, rfl, rfl, rfl⟩
theorem d_Re_takeOdds_54 : decode m_Re_takeOdds.2.1 54 = .ok (.aload_n 0, 1) := by decide +kernel
theorem d_Re_takeOdds_55 : decode m_Re_takeOdds.2.1 55 = .ok (.getfield 12, 3) := by decide +kernel
theorem d_Re_takeOdds_58 : decode m_Re_takeOdds.2.1 58 = .ok (.invokevirtual 116, 3) := by decide +kernel
theorem lk_Re_116 : Cond.methodLink "MaypoleGreen$Reader" 116 m_To_takeSemicolon.1 ∈ aw_T := aw_in 620 (by decide +kernel) rfl
theorem in_To_takeSemicolon : Cond.instanceMethod m_To_takeSemicolon.1 ∈ aw_T := aw_in 621 (by decide +kernel) rfl
theorem se_To_takeSemicolon : Cond.selects m_To_takeSemicolon.1.cls m_To_takeSemicolon.1 m_To_takeSemicolon.1 ∈ aw_T := aw_in 622 (by decide +kernel) rfl
theorem d_Re_takeOdds_61 : decode m_Re_takeOdds.2.1 61 = .ok (.ireturn, 1) := by decide +kernel
theorem d_Re_takeOdds_44 : decode m_Re_takeOdds.2.1 44 = .ok (.iconst 0, 1) := by decide +kernel
theorem d_Re_takeOdds_45 : decode m_Re_takeOdds.2.1 45 = .ok (.ireturn, 1) := by decide +kernel
theorem d_Re_takeOdds_7 : decode m_Re_takeOdds.2.1 7 = .ok (.aload_n 0, 1) := by decide +kernel
theorem d_Re_takeOdds_8 : decode m_Re_takeOdds.2.1 8 = .ok (.getfield 12, 3) := by decide +kernel
theorem d_Re_takeOdds_11 : decode m_Re_takeOdds.2.1 11 = .ok (.iconst 5, 1) := by decide +kernel
theorem d_Re_takeOdds_12 : decode m_Re_takeOdds.2.1 12 = .ok (.invokevirtual 82, 3) := by decide +kernel
theorem d_Re_takeOdds_15 : decode m_Re_takeOdds.2.1 15 = .ok (.ireturn, 1) := by decide +kernel
theorem d_Re_takeLong_0 : decode m_Re_takeLong.2.1 0 = .ok (.aload_n 0, 1) := by decide +kernel
theorem d_Re_takeLong_1 : decode m_Re_takeLong.2.1 1 = .ok (.getfield 35, 3) := by decide +kernel
theorem d_Re_takeLong_4 : decode m_Re_takeLong.2.1 4 = .ok (.ifCond .ne 10, 3) := by decide +kernel
theorem d_Re_takeLong_14 : decode m_Re_takeLong.2.1 14 = .ok (.aload_n 0, 1) := by decide +kernel
theorem d_Re_takeLong_15 : decode m_Re_takeLong.2.1 15 = .ok (.getfield 12, 3) := by decide +kernel
theorem d_Re_takeLong_18 : decode m_Re_takeLong.2.1 18 = .ok (.iconst 5, 1) := by decide +kernel
theorem d_Re_takeLong_19 : decode m_Re_takeLong.2.1 19 = .ok (.invokevirtual 82, 3) := by decide +kernel
theorem d_Re_takeLong_22 : decode m_Re_takeLong.2.1 22 = .ok (.ireturn, 1) := by decide +kernel
theorem d_Re_takeLong_7 : decode m_Re_takeLong.2.1 7 = .ok (.aload_n 0, 1) := by decide +kernel
theorem d_Re_takeLong_8 : decode m_Re_takeLong.2.1 8 = .ok (.getfield 38, 3) := by decide +kernel
theorem d_Re_takeLong_11 : decode m_Re_takeLong.2.1 11 = .ok (.ifCond .eq 12, 3) := by decide +kernel
theorem d_Re_takeLong_23 : decode m_Re_takeLong.2.1 23 = .ok (.aload_n 0, 1) := by decide +kernel
theorem d_Re_takeLong_24 : decode m_Re_takeLong.2.1 24 = .ok (.iconst 1, 1) := by decide +kernel
theorem d_Re_takeLong_25 : decode m_Re_takeLong.2.1 25 = .ok (.putfield 35, 3) := by decide +kernel
theorem d_Re_takeLong_28 : decode m_Re_takeLong.2.1 28 = .ok (.aload_n 0, 1) := by decide +kernel
theorem d_Re_takeLong_29 : decode m_Re_takeLong.2.1 29 = .ok (.getfield 12, 3) := by decide +kernel
theorem d_Re_takeLong_32 : decode m_Re_takeLong.2.1 32 = .ok (.invokevirtual 106, 3) := by decide +kernel
theorem d_Re_takeLong_35 : decode m_Re_takeLong.2.1 35 = .ok (.aload_n 0, 1) := by decide +kernel
theorem d_Re_takeLong_36 : decode m_Re_takeLong.2.1 36 = .ok (.getfield 12, 3) := by decide +kernel
theorem d_Re_takeLong_39 : decode m_Re_takeLong.2.1 39 = .ok (.iconst 1, 1) := by decide +kernel
theorem d_Re_takeLong_40 : decode m_Re_takeLong.2.1 40 = .ok (.bipush 40, 2) := by decide +kernel
theorem d_Re_takeLong_42 : decode m_Re_takeLong.2.1 42 = .ok (.invokevirtual 109, 3) := by decide +kernel
theorem d_Re_takeLong_45 : decode m_Re_takeLong.2.1 45 = .ok (.istore_n 1, 1) := by decide +kernel
theorem d_Re_takeLong_46 : decode m_Re_takeLong.2.1 46 = .ok (.iload_n 1, 1) := by decide +kernel
theorem d_Re_takeLong_47 : decode m_Re_takeLong.2.1 47 = .ok (.iconst (-1), 1) := by decide +kernel
theorem d_Re_takeLong_48 : decode m_Re_takeLong.2.1 48 = .ok (.if_icmp .ne 5, 3) := by decide +kernel
theorem d_Re_takeLong_53 : decode m_Re_takeLong.2.1 53 = .ok (.aload_n 0, 1) := by decide +kernel
theorem d_Re_takeLong_54 : decode m_Re_takeLong.2.1 54 = .ok (.getfield 22, 3) := by decide +kernel
theorem d_Re_takeLong_57 : decode m_Re_takeLong.2.1 57 = .ok (.iload_n 1, 1) := by decide +kernel
theorem d_Re_takeLong_58 : decode m_Re_takeLong.2.1 58 = .ok (.putfield 119, 3) := by decide +kernel
theorem f_Re_119 : aw_F "MaypoleGreen$Reader" 119 2 2 false := ⟨cR2, cT2, 13, fun k => cY2.getD k .int, rfl, ci2, cy2, cn2, rfl, by decide, aw_in 133 (by decide +kernel) rfl, rfl, rfl, rfl⟩
theorem d_Re_takeLong_61 : decode m_Re_takeLong.2.1 61 = .ok (.aload_n 0, 1) := by decide +kernel
theorem d_Re_takeLong_62 : decode m_Re_takeLong.2.1 62 = .ok (.getfield 12, 3) := by decide +kernel
theorem d_Re_takeLong_65 : decode m_Re_takeLong.2.1 65 = .ok (.invokevirtual 116, 3) := by decide +kernel
theorem d_Re_takeLong_68 : decode m_Re_takeLong.2.1 68 = .ok (.ireturn, 1) := by decide +kernel
theorem d_Re_takeLong_51 : decode m_Re_takeLong.2.1 51 = .ok (.iconst 0, 1) := by decide +kernel
theorem d_Re_takeLong_52 : decode m_Re_takeLong.2.1 52 = .ok (.ireturn, 1) := by decide +kernel
theorem d_Re_takeDancer_0 : decode m_Re_takeDancer.2.1 0 = .ok (.aload_n 0, 1) := by decide +kernel
theorem d_Re_takeDancer_1 : decode m_Re_takeDancer.2.1 1 = .ok (.getfield 38, 3) := by decide +kernel
theorem d_Re_takeDancer_4 : decode m_Re_takeDancer.2.1 4 = .ok (.ifCond .eq 12, 3) := by decide +kernel
theorem d_Re_takeDancer_16 : decode m_Re_takeDancer.2.1 16 = .ok (.aload_n 0, 1) := by decide +kernel
theorem d_Re_takeDancer_17 : decode m_Re_takeDancer.2.1 17 = .ok (.getfield 22, 3) := by decide +kernel
theorem d_Re_takeDancer_20 : decode m_Re_takeDancer.2.1 20 = .ok (.getfield 122, 3) := by decide +kernel
theorem f_Re_122 : aw_F "MaypoleGreen$Reader" 122 2 0 false := ⟨cR2, cT2, 13, fun k => cY2.getD k .int, rfl, ci2, cy2, cn2, rfl, by decide, aw_in 126 (by decide +kernel) rfl, rfl, rfl, rfl⟩
theorem d_Re_takeDancer_23 : decode m_Re_takeDancer.2.1 23 = .ok (.bipush 7, 2) := by decide +kernel
theorem d_Re_takeDancer_25 : decode m_Re_takeDancer.2.1 25 = .ok (.if_icmp .lt 13, 3) := by decide +kernel
theorem d_Re_takeDancer_38 : decode m_Re_takeDancer.2.1 38 = .ok (.aload_n 0, 1) := by decide +kernel
theorem d_Re_takeDancer_39 : decode m_Re_takeDancer.2.1 39 = .ok (.getfield 12, 3) := by decide +kernel
theorem d_Re_takeDancer_42 : decode m_Re_takeDancer.2.1 42 = .ok (.invokevirtual 106, 3) := by decide +kernel
theorem d_Re_takeDancer_45 : decode m_Re_takeDancer.2.1 45 = .ok (.aload_n 0, 1) := by decide +kernel
theorem d_Re_takeDancer_46 : decode m_Re_takeDancer.2.1 46 = .ok (.getfield 12, 3) := by decide +kernel
theorem d_Re_takeDancer_49 : decode m_Re_takeDancer.2.1 49 = .ok (.invokevirtual 125, 3) := by decide +kernel
theorem lk_Re_125 : Cond.methodLink "MaypoleGreen$Reader" 125 m_To_isName.1 ∈ aw_T := aw_in 632 (by decide +kernel) rfl
theorem in_To_isName : Cond.instanceMethod m_To_isName.1 ∈ aw_T := aw_in 633 (by decide +kernel) rfl
theorem se_To_isName : Cond.selects m_To_isName.1.cls m_To_isName.1 m_To_isName.1 ∈ aw_T := aw_in 634 (by decide +kernel) rfl
theorem d_Re_takeDancer_52 : decode m_Re_takeDancer.2.1 52 = .ok (.ifCond .ne 12, 3) := by decide +kernel
theorem d_Re_takeDancer_64 : decode m_Re_takeDancer.2.1 64 = .ok (.aload_n 0, 1) := by decide +kernel
theorem d_Re_takeDancer_65 : decode m_Re_takeDancer.2.1 65 = .ok (.getfield 12, 3) := by decide +kernel
theorem d_Re_takeDancer_68 : decode m_Re_takeDancer.2.1 68 = .ok (.getfield 128, 3) := by decide +kernel
theorem f_Re_128 : aw_F "MaypoleGreen$Reader" 128 6 3 false := ⟨cR6, cT6, 11, fun k => cY6.getD k .int, rfl, ci6, cy6, cn6, rfl, by decide, aw_in 255 (by decide +kernel) rfl, rfl, rfl, rfl⟩
theorem d_Re_takeDancer_71 : decode m_Re_takeDancer.2.1 71 = .ok (.lstore_n 1, 1) := by decide +kernel
theorem d_Re_takeDancer_72 : decode m_Re_takeDancer.2.1 72 = .ok (.aload_n 0, 1) := by decide +kernel
theorem d_Re_takeDancer_73 : decode m_Re_takeDancer.2.1 73 = .ok (.getfield 22, 3) := by decide +kernel
theorem d_Re_takeDancer_76 : decode m_Re_takeDancer.2.1 76 = .ok (.lload_n 1, 1) := by decide +kernel
theorem d_Re_takeDancer_77 : decode m_Re_takeDancer.2.1 77 = .ok (.invokevirtual 132, 3) := by decide +kernel
theorem lk_Re_132 : Cond.methodLink "MaypoleGreen$Reader" 132 m_Gr_named.1 ∈ aw_T := aw_in 637 (by decide +kernel) rfl
theorem in_Gr_named : Cond.instanceMethod m_Gr_named.1 ∈ aw_T := aw_in 638 (by decide +kernel) rfl
theorem se_Gr_named : Cond.selects m_Gr_named.1.cls m_Gr_named.1 m_Gr_named.1 ∈ aw_T := aw_in 639 (by decide +kernel) rfl
theorem d_Re_takeDancer_80 : decode m_Re_takeDancer.2.1 80 = .ok (.iconst (-1), 1) := by decide +kernel
theorem d_Re_takeDancer_81 : decode m_Re_takeDancer.2.1 81 = .ok (.if_icmp .eq 12, 3) := by decide +kernel
theorem d_Re_takeDancer_93 : decode m_Re_takeDancer.2.1 93 = .ok (.aload_n 0, 1) := by decide +kernel
theorem d_Re_takeDancer_94 : decode m_Re_takeDancer.2.1 94 = .ok (.getfield 12, 3) := by decide +kernel
theorem d_Re_takeDancer_97 : decode m_Re_takeDancer.2.1 97 = .ok (.invokevirtual 106, 3) := by decide +kernel
theorem d_Re_takeDancer_100 : decode m_Re_takeDancer.2.1 100 = .ok (.aload_n 0, 1) := by decide +kernel
theorem d_Re_takeDancer_101 : decode m_Re_takeDancer.2.1 101 = .ok (.getfield 12, 3) := by decide +kernel
theorem d_Re_takeDancer_104 : decode m_Re_takeDancer.2.1 104 = .ok (.iconst 3, 1) := by decide +kernel
theorem d_Re_takeDancer_105 : decode m_Re_takeDancer.2.1 105 = .ok (.invokevirtual 136, 3) := by decide +kernel
theorem lk_Re_136 : Cond.methodLink "MaypoleGreen$Reader" 136 m_To_takeReserved.1 ∈ aw_T := aw_in 641 (by decide +kernel) rfl
theorem in_To_takeReserved : Cond.instanceMethod m_To_takeReserved.1 ∈ aw_T := aw_in 642 (by decide +kernel) rfl
theorem se_To_takeReserved : Cond.selects m_To_takeReserved.1.cls m_To_takeReserved.1 m_To_takeReserved.1 ∈ aw_T := aw_in 643 (by decide +kernel) rfl
theorem d_Re_takeDancer_108 : decode m_Re_takeDancer.2.1 108 = .ok (.ifCond .ne 5, 3) := by decide +kernel
theorem d_Re_takeDancer_113 : decode m_Re_takeDancer.2.1 113 = .ok (.aload_n 0, 1) := by decide +kernel
theorem d_Re_takeDancer_114 : decode m_Re_takeDancer.2.1 114 = .ok (.getfield 12, 3) := by decide +kernel
theorem d_Re_takeDancer_117 : decode m_Re_takeDancer.2.1 117 = .ok (.iconst 0, 1) := by decide +kernel
theorem d_Re_takeDancer_118 : decode m_Re_takeDancer.2.1 118 = .ok (.iconst 5, 1) := by decide +kernel
theorem d_Re_takeDancer_119 : decode m_Re_takeDancer.2.1 119 = .ok (.invokevirtual 109, 3) := by decide +kernel
theorem d_Re_takeDancer_122 : decode m_Re_takeDancer.2.1 122 = .ok (.istore_n 3, 1) := by decide +kernel
theorem d_Re_takeDancer_123 : decode m_Re_takeDancer.2.1 123 = .ok (.iload_n 3, 1) := by decide +kernel
theorem d_Re_takeDancer_124 : decode m_Re_takeDancer.2.1 124 = .ok (.iconst (-1), 1) := by decide +kernel
theorem d_Re_takeDancer_125 : decode m_Re_takeDancer.2.1 125 = .ok (.if_icmp .ne 5, 3) := by decide +kernel
theorem d_Re_takeDancer_130 : decode m_Re_takeDancer.2.1 130 = .ok (.aload_n 0, 1) := by decide +kernel
theorem d_Re_takeDancer_131 : decode m_Re_takeDancer.2.1 131 = .ok (.getfield 22, 3) := by decide +kernel
theorem d_Re_takeDancer_134 : decode m_Re_takeDancer.2.1 134 = .ok (.lload_n 1, 1) := by decide +kernel
theorem d_Re_takeDancer_135 : decode m_Re_takeDancer.2.1 135 = .ok (.iload_n 3, 1) := by decide +kernel
theorem d_Re_takeDancer_136 : decode m_Re_takeDancer.2.1 136 = .ok (.invokevirtual 139, 3) := by decide +kernel
theorem lk_Re_139 : Cond.methodLink "MaypoleGreen$Reader" 139 m_Gr_join.1 ∈ aw_T := aw_in 645 (by decide +kernel) rfl
theorem in_Gr_join : Cond.instanceMethod m_Gr_join.1 ∈ aw_T := aw_in 646 (by decide +kernel) rfl
theorem se_Gr_join : Cond.selects m_Gr_join.1.cls m_Gr_join.1 m_Gr_join.1 ∈ aw_T := aw_in 647 (by decide +kernel) rfl
theorem d_Re_takeDancer_139 : decode m_Re_takeDancer.2.1 139 = .ok (.aload_n 0, 1) := by decide +kernel
theorem d_Re_takeDancer_140 : decode m_Re_takeDancer.2.1 140 = .ok (.getfield 12, 3) := by decide +kernel
theorem d_Re_takeDancer_143 : decode m_Re_takeDancer.2.1 143 = .ok (.invokevirtual 116, 3) := by decide +kernel
theorem d_Re_takeDancer_146 : decode m_Re_takeDancer.2.1 146 = .ok (.ireturn, 1) := by decide +kernel
theorem d_Re_takeDancer_128 : decode m_Re_takeDancer.2.1 128 = .ok (.iconst 0, 1) := by decide +kernel
theorem d_Re_takeDancer_129 : decode m_Re_takeDancer.2.1 129 = .ok (.ireturn, 1) := by decide +kernel
theorem d_Re_takeDancer_111 : decode m_Re_takeDancer.2.1 111 = .ok (.iconst 0, 1) := by decide +kernel
theorem d_Re_takeDancer_112 : decode m_Re_takeDancer.2.1 112 = .ok (.ireturn, 1) := by decide +kernel
theorem d_Re_takeDancer_84 : decode m_Re_takeDancer.2.1 84 = .ok (.aload_n 0, 1) := by decide +kernel
theorem d_Re_takeDancer_85 : decode m_Re_takeDancer.2.1 85 = .ok (.getfield 12, 3) := by decide +kernel
theorem d_Re_takeDancer_88 : decode m_Re_takeDancer.2.1 88 = .ok (.iconst 3, 1) := by decide +kernel
theorem d_Re_takeDancer_89 : decode m_Re_takeDancer.2.1 89 = .ok (.invokevirtual 82, 3) := by decide +kernel
theorem d_Re_takeDancer_92 : decode m_Re_takeDancer.2.1 92 = .ok (.ireturn, 1) := by decide +kernel
theorem d_Re_takeDancer_55 : decode m_Re_takeDancer.2.1 55 = .ok (.aload_n 0, 1) := by decide +kernel
theorem d_Re_takeDancer_56 : decode m_Re_takeDancer.2.1 56 = .ok (.getfield 12, 3) := by decide +kernel
theorem d_Re_takeDancer_59 : decode m_Re_takeDancer.2.1 59 = .ok (.iconst 2, 1) := by decide +kernel
theorem d_Re_takeDancer_60 : decode m_Re_takeDancer.2.1 60 = .ok (.invokevirtual 82, 3) := by decide +kernel
theorem d_Re_takeDancer_63 : decode m_Re_takeDancer.2.1 63 = .ok (.ireturn, 1) := by decide +kernel
theorem d_Re_takeDancer_28 : decode m_Re_takeDancer.2.1 28 = .ok (.aload_n 0, 1) := by decide +kernel
theorem d_Re_takeDancer_29 : decode m_Re_takeDancer.2.1 29 = .ok (.getfield 12, 3) := by decide +kernel
theorem d_Re_takeDancer_32 : decode m_Re_takeDancer.2.1 32 = .ok (.bipush 6, 2) := by decide +kernel
theorem d_Re_takeDancer_34 : decode m_Re_takeDancer.2.1 34 = .ok (.invokevirtual 82, 3) := by decide +kernel
theorem d_Re_takeDancer_37 : decode m_Re_takeDancer.2.1 37 = .ok (.ireturn, 1) := by decide +kernel
theorem d_Re_takeDancer_7 : decode m_Re_takeDancer.2.1 7 = .ok (.aload_n 0, 1) := by decide +kernel
theorem d_Re_takeDancer_8 : decode m_Re_takeDancer.2.1 8 = .ok (.getfield 12, 3) := by decide +kernel
theorem d_Re_takeDancer_11 : decode m_Re_takeDancer.2.1 11 = .ok (.iconst 5, 1) := by decide +kernel
theorem d_Re_takeDancer_12 : decode m_Re_takeDancer.2.1 12 = .ok (.invokevirtual 82, 3) := by decide +kernel
theorem d_Re_takeDancer_15 : decode m_Re_takeDancer.2.1 15 = .ok (.ireturn, 1) := by decide +kernel
theorem d_Re_takeTextPass_0 : decode m_Re_takeTextPass.2.1 0 = .ok (.aload_n 0, 1) := by decide +kernel
theorem d_Re_takeTextPass_1 : decode m_Re_takeTextPass.2.1 1 = .ok (.iconst 1, 1) := by decide +kernel
theorem d_Re_takeTextPass_2 : decode m_Re_takeTextPass.2.1 2 = .ok (.putfield 38, 3) := by decide +kernel
theorem d_Re_takeTextPass_5 : decode m_Re_takeTextPass.2.1 5 = .ok (.aload_n 0, 1) := by decide +kernel
theorem d_Re_takeTextPass_6 : decode m_Re_takeTextPass.2.1 6 = .ok (.getfield 12, 3) := by decide +kernel
theorem d_Re_takeTextPass_9 : decode m_Re_takeTextPass.2.1 9 = .ok (.invokevirtual 106, 3) := by decide +kernel
theorem d_Re_takeTextPass_12 : decode m_Re_takeTextPass.2.1 12 = .ok (.aload_n 0, 1) := by decide +kernel
theorem d_Re_takeTextPass_13 : decode m_Re_takeTextPass.2.1 13 = .ok (.getfield 12, 3) := by decide +kernel
theorem d_Re_takeTextPass_16 : decode m_Re_takeTextPass.2.1 16 = .ok (.iconst 0, 1) := by decide +kernel
theorem d_Re_takeTextPass_17 : decode m_Re_takeTextPass.2.1 17 = .ok (.aload_n 0, 1) := by decide +kernel
theorem d_Re_takeTextPass_18 : decode m_Re_takeTextPass.2.1 18 = .ok (.getfield 22, 3) := by decide +kernel
theorem d_Re_takeTextPass_21 : decode m_Re_takeTextPass.2.1 21 = .ok (.invokevirtual 143, 3) := by decide +kernel
theorem lk_Re_143 : Cond.methodLink "MaypoleGreen$Reader" 143 m_Gr_gaps.1 ∈ aw_T := aw_in 653 (by decide +kernel) rfl
theorem d_Re_takeTextPass_24 : decode m_Re_takeTextPass.2.1 24 = .ok (.iconst 1, 1) := by decide +kernel
theorem d_Re_takeTextPass_25 : decode m_Re_takeTextPass.2.1 25 = .ok (.isub, 1) := by decide +kernel
theorem d_Re_takeTextPass_26 : decode m_Re_takeTextPass.2.1 26 = .ok (.invokevirtual 109, 3) := by decide +kernel
theorem d_Re_takeTextPass_29 : decode m_Re_takeTextPass.2.1 29 = .ok (.istore_n 1, 1) := by decide +kernel
theorem d_Re_takeTextPass_30 : decode m_Re_takeTextPass.2.1 30 = .ok (.iload_n 1, 1) := by decide +kernel
theorem d_Re_takeTextPass_31 : decode m_Re_takeTextPass.2.1 31 = .ok (.iconst (-1), 1) := by decide +kernel
theorem d_Re_takeTextPass_32 : decode m_Re_takeTextPass.2.1 32 = .ok (.if_icmp .ne 5, 3) := by decide +kernel
theorem d_Re_takeTextPass_37 : decode m_Re_takeTextPass.2.1 37 = .ok (.aload_n 0, 1) := by decide +kernel
theorem d_Re_takeTextPass_38 : decode m_Re_takeTextPass.2.1 38 = .ok (.invokevirtual 146, 3) := by decide +kernel
abbrev m_Re_howOver : aw_MI := (⟨"MaypoleGreen$Reader", "howOver", "()I"⟩, prog_10_method_10_code, 2, some .int)
theorem lk_Re_146 : Cond.methodLink "MaypoleGreen$Reader" 146 m_Re_howOver.1 ∈ aw_T := aw_in 657 (by decide +kernel) rfl
theorem k_Re_howOver : aw_K m_Re_howOver 0 := ⟨aw_in 660 (by decide +kernel) rfl, aw_in 6 (by decide +kernel) rfl, ⟨by decide, by decide, by decide +kernel⟩, by decide, by decide +kernel⟩
theorem in_Re_howOver : Cond.instanceMethod m_Re_howOver.1 ∈ aw_T := aw_in 659 (by decide +kernel) rfl
theorem se_Re_howOver : Cond.selects m_Re_howOver.1.cls m_Re_howOver.1 m_Re_howOver.1 ∈ aw_T := aw_inP 13 (by decide +kernel) rfl
theorem d_Re_takeTextPass_41 : decode m_Re_takeTextPass.2.1 41 = .ok (.istore_n 2, 1) := by decide +kernel
theorem d_Re_takeTextPass_42 : decode m_Re_takeTextPass.2.1 42 = .ok (.iload_n 2, 1) := by decide +kernel
theorem d_Re_takeTextPass_43 : decode m_Re_takeTextPass.2.1 43 = .ok (.iconst (-1), 1) := by decide +kernel
theorem d_Re_takeTextPass_44 : decode m_Re_takeTextPass.2.1 44 = .ok (.if_icmp .ne 12, 3) := by decide +kernel
theorem d_Re_takeTextPass_56 : decode m_Re_takeTextPass.2.1 56 = .ok (.aload_n 0, 1) := by decide +kernel
theorem d_Re_takeTextPass_57 : decode m_Re_takeTextPass.2.1 57 = .ok (.getfield 22, 3) := by decide +kernel
theorem d_Re_takeTextPass_60 : decode m_Re_takeTextPass.2.1 60 = .ok (.iconst 2, 1) := by decide +kernel
theorem d_Re_takeTextPass_61 : decode m_Re_takeTextPass.2.1 61 = .ok (.iload_n 1, 1) := by decide +kernel
theorem d_Re_takeTextPass_62 : decode m_Re_takeTextPass.2.1 62 = .ok (.imul, 1) := by decide +kernel
theorem d_Re_takeTextPass_63 : decode m_Re_takeTextPass.2.1 63 = .ok (.iload_n 2, 1) := by decide +kernel
theorem d_Re_takeTextPass_64 : decode m_Re_takeTextPass.2.1 64 = .ok (.iadd, 1) := by decide +kernel
theorem d_Re_takeTextPass_65 : decode m_Re_takeTextPass.2.1 65 = .ok (.invokevirtual 149, 3) := by decide +kernel
theorem lk_Re_149 : Cond.methodLink "MaypoleGreen$Reader" 149 m_Gr_makePass.1 ∈ aw_T := aw_in 661 (by decide +kernel) rfl
theorem d_Re_takeTextPass_68 : decode m_Re_takeTextPass.2.1 68 = .ok (.iconst (-1), 1) := by decide +kernel
theorem d_Re_takeTextPass_69 : decode m_Re_takeTextPass.2.1 69 = .ok (.if_icmp .ne 12, 3) := by decide +kernel
theorem d_Re_takeTextPass_81 : decode m_Re_takeTextPass.2.1 81 = .ok (.aload_n 0, 1) := by decide +kernel
theorem d_Re_takeTextPass_82 : decode m_Re_takeTextPass.2.1 82 = .ok (.getfield 12, 3) := by decide +kernel
theorem d_Re_takeTextPass_85 : decode m_Re_takeTextPass.2.1 85 = .ok (.invokevirtual 106, 3) := by decide +kernel
theorem d_Re_takeTextPass_88 : decode m_Re_takeTextPass.2.1 88 = .ok (.aload_n 0, 1) := by decide +kernel
theorem d_Re_takeTextPass_89 : decode m_Re_takeTextPass.2.1 89 = .ok (.getfield 12, 3) := by decide +kernel
theorem d_Re_takeTextPass_92 : decode m_Re_takeTextPass.2.1 92 = .ok (.invokevirtual 116, 3) := by decide +kernel
theorem d_Re_takeTextPass_95 : decode m_Re_takeTextPass.2.1 95 = .ok (.ireturn, 1) := by decide +kernel
theorem d_Re_takeTextPass_72 : decode m_Re_takeTextPass.2.1 72 = .ok (.aload_n 0, 1) := by decide +kernel
theorem d_Re_takeTextPass_73 : decode m_Re_takeTextPass.2.1 73 = .ok (.getfield 12, 3) := by decide +kernel
theorem d_Re_takeTextPass_76 : decode m_Re_takeTextPass.2.1 76 = .ok (.iconst 5, 1) := by decide +kernel
theorem d_Re_takeTextPass_77 : decode m_Re_takeTextPass.2.1 77 = .ok (.invokevirtual 82, 3) := by decide +kernel
theorem d_Re_takeTextPass_80 : decode m_Re_takeTextPass.2.1 80 = .ok (.ireturn, 1) := by decide +kernel
theorem d_Re_takeTextPass_47 : decode m_Re_takeTextPass.2.1 47 = .ok (.aload_n 0, 1) := by decide +kernel
theorem d_Re_takeTextPass_48 : decode m_Re_takeTextPass.2.1 48 = .ok (.getfield 12, 3) := by decide +kernel
theorem d_Re_takeTextPass_51 : decode m_Re_takeTextPass.2.1 51 = .ok (.iconst 2, 1) := by decide +kernel
theorem d_Re_takeTextPass_52 : decode m_Re_takeTextPass.2.1 52 = .ok (.invokevirtual 82, 3) := by decide +kernel
theorem d_Re_takeTextPass_55 : decode m_Re_takeTextPass.2.1 55 = .ok (.ireturn, 1) := by decide +kernel
theorem d_Re_takeTextPass_35 : decode m_Re_takeTextPass.2.1 35 = .ok (.iconst 0, 1) := by decide +kernel
theorem d_Re_takeTextPass_36 : decode m_Re_takeTextPass.2.1 36 = .ok (.ireturn, 1) := by decide +kernel
theorem d_Re_howOver_0 : decode m_Re_howOver.2.1 0 = .ok (.aload_n 0, 1) := by decide +kernel
theorem d_Re_howOver_1 : decode m_Re_howOver.2.1 1 = .ok (.getfield 12, 3) := by decide +kernel
theorem d_Re_howOver_4 : decode m_Re_howOver.2.1 4 = .ok (.invokevirtual 72, 3) := by decide +kernel
theorem d_Re_howOver_7 : decode m_Re_howOver.2.1 7 = .ok (.istore_n 1, 1) := by decide +kernel
theorem d_Re_howOver_8 : decode m_Re_howOver.2.1 8 = .ok (.iload_n 1, 1) := by decide +kernel
theorem d_Re_howOver_9 : decode m_Re_howOver.2.1 9 = .ok (.iconst 5, 1) := by decide +kernel
theorem d_Re_howOver_10 : decode m_Re_howOver.2.1 10 = .ok (.if_icmp .ne 5, 3) := by decide +kernel
theorem d_Re_howOver_15 : decode m_Re_howOver.2.1 15 = .ok (.iload_n 1, 1) := by decide +kernel
theorem d_Re_howOver_16 : decode m_Re_howOver.2.1 16 = .ok (.bipush 6, 2) := by decide +kernel
theorem d_Re_howOver_18 : decode m_Re_howOver.2.1 18 = .ok (.if_icmp .ne 7, 3) := by decide +kernel
theorem d_Re_howOver_25 : decode m_Re_howOver.2.1 25 = .ok (.iconst (-1), 1) := by decide +kernel
theorem d_Re_howOver_26 : decode m_Re_howOver.2.1 26 = .ok (.ireturn, 1) := by decide +kernel
theorem d_Re_howOver_21 : decode m_Re_howOver.2.1 21 = .ok (.iconst 0, 1) := by decide +kernel
theorem d_Re_howOver_22 : decode m_Re_howOver.2.1 22 = .ok (.goto 4, 3) := by decide +kernel
theorem d_Re_howOver_13 : decode m_Re_howOver.2.1 13 = .ok (.iconst 1, 1) := by decide +kernel
theorem d_Re_howOver_14 : decode m_Re_howOver.2.1 14 = .ok (.ireturn, 1) := by decide +kernel
theorem d_Re_closeReading_0 : decode m_Re_closeReading.2.1 0 = .ok (.aload_n 0, 1) := by decide +kernel
theorem d_Re_closeReading_1 : decode m_Re_closeReading.2.1 1 = .ok (.aload_n 0, 1) := by decide +kernel
theorem d_Re_closeReading_2 : decode m_Re_closeReading.2.1 2 = .ok (.getfield 12, 3) := by decide +kernel
theorem d_Re_closeReading_5 : decode m_Re_closeReading.2.1 5 = .ok (.getfield 86, 3) := by decide +kernel
theorem f_Re_86 : aw_F "MaypoleGreen$Reader" 86 6 0 false := ⟨cR6, cT6, 11, fun k => cY6.getD k .int, rfl, ci6, cy6, cn6, rfl, by decide, aw_in 249 (by decide +kernel) rfl, rfl, rfl, rfl⟩
theorem d_Re_closeReading_8 : decode m_Re_closeReading.2.1 8 = .ok (.putfield 89, 3) := by decide +kernel
theorem f_Re_89 : aw_F "MaypoleGreen$Reader" 89 5 0 false := ⟨cR5, cT5, 10, fun k => cY5.getD k .int, rfl, ci5, cy5, cn5, rfl, by decide, aw_in 287 (by decide +kernel) rfl, rfl, rfl, rfl⟩
theorem d_Re_closeReading_11 : decode m_Re_closeReading.2.1 11 = .ok (.aload_n 0, 1) := by decide +kernel
theorem d_Re_closeReading_12 : decode m_Re_closeReading.2.1 12 = .ok (.aload_n 0, 1) := by decide +kernel
theorem d_Re_closeReading_13 : decode m_Re_closeReading.2.1 13 = .ok (.getfield 12, 3) := by decide +kernel
theorem d_Re_closeReading_16 : decode m_Re_closeReading.2.1 16 = .ok (.getfield 90, 3) := by decide +kernel
theorem f_Re_90 : aw_F "MaypoleGreen$Reader" 90 6 1 false := ⟨cR6, cT6, 11, fun k => cY6.getD k .int, rfl, ci6, cy6, cn6, rfl, by decide, aw_in 251 (by decide +kernel) rfl, rfl, rfl, rfl⟩
theorem d_Re_closeReading_19 : decode m_Re_closeReading.2.1 19 = .ok (.putfield 93, 3) := by decide +kernel
theorem f_Re_93 : aw_F "MaypoleGreen$Reader" 93 5 1 false := ⟨cR5, cT5, 10, fun k => cY5.getD k .int, rfl, ci5, cy5, cn5, rfl, by decide, aw_in 289 (by decide +kernel) rfl, rfl, rfl, rfl⟩
theorem d_Re_closeReading_22 : decode m_Re_closeReading.2.1 22 = .ok (.return_, 1) := by decide +kernel
abbrev m_Re_readFeasts : aw_MI := (⟨"MaypoleGreen$Reader", "readFeasts", "([BILMaypoleGreen$Green;LMaypoleGreen$Feasts;)V"⟩, prog_10_method_3_code, 7, none)
theorem k_Re_readFeasts : aw_K m_Re_readFeasts 4 := ⟨aw_in 737 (by decide +kernel) rfl, aw_in 6 (by decide +kernel) rfl, ⟨by decide, by decide, by decide +kernel⟩, by decide, by decide +kernel⟩
theorem d_Re_readFeasts_0 : decode m_Re_readFeasts.2.1 0 = .ok (.aload_n 0, 1) := by decide +kernel
theorem d_Re_readFeasts_1 : decode m_Re_readFeasts.2.1 1 = .ok (.aload_n 3, 1) := by decide +kernel
theorem d_Re_readFeasts_2 : decode m_Re_readFeasts.2.1 2 = .ok (.putfield 22, 3) := by decide +kernel
theorem d_Re_readFeasts_5 : decode m_Re_readFeasts.2.1 5 = .ok (.aload_n 0, 1) := by decide +kernel
theorem d_Re_readFeasts_6 : decode m_Re_readFeasts.2.1 6 = .ok (.aload 4, 2) := by decide +kernel
theorem d_Re_readFeasts_8 : decode m_Re_readFeasts.2.1 8 = .ok (.putfield 59, 3) := by decide +kernel
theorem f_Re_59 : aw_F "MaypoleGreen$Reader" 59 5 4 false := ⟨cR5, cT5, 10, fun k => cY5.getD k .int, rfl, ci5, cy5, cn5, rfl, by decide, aw_in 293 (by decide +kernel) rfl, rfl, rfl, rfl⟩
theorem d_Re_readFeasts_11 : decode m_Re_readFeasts.2.1 11 = .ok (.aload_n 0, 1) := by decide +kernel
theorem d_Re_readFeasts_12 : decode m_Re_readFeasts.2.1 12 = .ok (.getfield 59, 3) := by decide +kernel
theorem d_Re_readFeasts_15 : decode m_Re_readFeasts.2.1 15 = .ok (.invokevirtual 63, 3) := by decide +kernel
theorem lk_Re_63 : Cond.methodLink "MaypoleGreen$Reader" 63 m_Fe_clear.1 ∈ aw_T := aw_in 738 (by decide +kernel) rfl
theorem d_Re_readFeasts_18 : decode m_Re_readFeasts.2.1 18 = .ok (.aload_n 0, 1) := by decide +kernel
theorem d_Re_readFeasts_19 : decode m_Re_readFeasts.2.1 19 = .ok (.getfield 59, 3) := by decide +kernel
theorem d_Re_readFeasts_22 : decode m_Re_readFeasts.2.1 22 = .ok (.iconst 1, 1) := by decide +kernel
theorem d_Re_readFeasts_23 : decode m_Re_readFeasts.2.1 23 = .ok (.putfield 66, 3) := by decide +kernel
theorem f_Re_66 : aw_F "MaypoleGreen$Reader" 66 4 0 false := ⟨cR4, cT4, 7, fun k => cY4.getD k .int, rfl, ci4, cy4, cn4, rfl, by decide, aw_in 88 (by decide +kernel) rfl, rfl, rfl, rfl⟩
theorem d_Re_readFeasts_26 : decode m_Re_readFeasts.2.1 26 = .ok (.aload_n 0, 1) := by decide +kernel
theorem d_Re_readFeasts_27 : decode m_Re_readFeasts.2.1 27 = .ok (.iconst 0, 1) := by decide +kernel
theorem d_Re_readFeasts_28 : decode m_Re_readFeasts.2.1 28 = .ok (.putfield 69, 3) := by decide +kernel
theorem f_Re_69 : aw_F "MaypoleGreen$Reader" 69 5 8 false := ⟨cR5, cT5, 10, fun k => cY5.getD k .int, rfl, ci5, cy5, cn5, rfl, by decide, aw_in 297 (by decide +kernel) rfl, rfl, rfl, rfl⟩
theorem d_Re_readFeasts_31 : decode m_Re_readFeasts.2.1 31 = .ok (.aload_n 0, 1) := by decide +kernel
theorem d_Re_readFeasts_32 : decode m_Re_readFeasts.2.1 32 = .ok (.getfield 12, 3) := by decide +kernel
theorem d_Re_readFeasts_35 : decode m_Re_readFeasts.2.1 35 = .ok (.aload_n 1, 1) := by decide +kernel
theorem d_Re_readFeasts_36 : decode m_Re_readFeasts.2.1 36 = .ok (.iload_n 2, 1) := by decide +kernel
theorem d_Re_readFeasts_37 : decode m_Re_readFeasts.2.1 37 = .ok (.invokevirtual 41, 3) := by decide +kernel
theorem d_Re_readFeasts_40 : decode m_Re_readFeasts.2.1 40 = .ok (.iconst 1, 1) := by decide +kernel
theorem d_Re_readFeasts_41 : decode m_Re_readFeasts.2.1 41 = .ok (.istore 5, 2) := by decide +kernel
theorem d_Re_readFeasts_43 : decode m_Re_readFeasts.2.1 43 = .ok (.iconst 0, 1) := by decide +kernel
theorem d_Re_readFeasts_44 : decode m_Re_readFeasts.2.1 44 = .ok (.istore 6, 2) := by decide +kernel
theorem d_Re_readFeasts_46 : decode m_Re_readFeasts.2.1 46 = .ok (.iload 6, 2) := by decide +kernel
theorem d_Re_readFeasts_48 : decode m_Re_readFeasts.2.1 48 = .ok (.iload_n 2, 1) := by decide +kernel
theorem d_Re_readFeasts_49 : decode m_Re_readFeasts.2.1 49 = .ok (.if_icmp .gt 49, 3) := by decide +kernel
theorem d_Re_readFeasts_98 : decode m_Re_readFeasts.2.1 98 = .ok (.iload 5, 2) := by decide +kernel
theorem d_Re_readFeasts_100 : decode m_Re_readFeasts.2.1 100 = .ok (.ifCond .eq 19, 3) := by decide +kernel
theorem d_Re_readFeasts_119 : decode m_Re_readFeasts.2.1 119 = .ok (.aload_n 0, 1) := by decide +kernel
theorem d_Re_readFeasts_120 : decode m_Re_readFeasts.2.1 120 = .ok (.invokevirtual 56, 3) := by decide +kernel
theorem d_Re_readFeasts_123 : decode m_Re_readFeasts.2.1 123 = .ok (.return_, 1) := by decide +kernel
theorem d_Re_readFeasts_103 : decode m_Re_readFeasts.2.1 103 = .ok (.aload_n 0, 1) := by decide +kernel
theorem d_Re_readFeasts_104 : decode m_Re_readFeasts.2.1 104 = .ok (.getfield 69, 3) := by decide +kernel
theorem d_Re_readFeasts_107 : decode m_Re_readFeasts.2.1 107 = .ok (.ifCond .le 12, 3) := by decide +kernel
theorem d_Re_readFeasts_110 : decode m_Re_readFeasts.2.1 110 = .ok (.aload_n 0, 1) := by decide +kernel
theorem d_Re_readFeasts_111 : decode m_Re_readFeasts.2.1 111 = .ok (.getfield 12, 3) := by decide +kernel
theorem d_Re_readFeasts_114 : decode m_Re_readFeasts.2.1 114 = .ok (.iconst 2, 1) := by decide +kernel
theorem d_Re_readFeasts_115 : decode m_Re_readFeasts.2.1 115 = .ok (.invokevirtual 82, 3) := by decide +kernel
theorem d_Re_readFeasts_118 : decode m_Re_readFeasts.2.1 118 = .ok (.pop, 1) := by decide +kernel
theorem d_Re_readFeasts_52 : decode m_Re_readFeasts.2.1 52 = .ok (.iload 5, 2) := by decide +kernel
theorem d_Re_readFeasts_54 : decode m_Re_readFeasts.2.1 54 = .ok (.ifCond .eq 44, 3) := by decide +kernel
theorem d_Re_readFeasts_57 : decode m_Re_readFeasts.2.1 57 = .ok (.aload_n 0, 1) := by decide +kernel
theorem d_Re_readFeasts_58 : decode m_Re_readFeasts.2.1 58 = .ok (.getfield 12, 3) := by decide +kernel
theorem d_Re_readFeasts_61 : decode m_Re_readFeasts.2.1 61 = .ok (.getfield 45, 3) := by decide +kernel
theorem d_Re_readFeasts_64 : decode m_Re_readFeasts.2.1 64 = .ok (.ifCond .eq 34, 3) := by decide +kernel
theorem d_Re_readFeasts_67 : decode m_Re_readFeasts.2.1 67 = .ok (.aload_n 0, 1) := by decide +kernel
theorem d_Re_readFeasts_68 : decode m_Re_readFeasts.2.1 68 = .ok (.getfield 12, 3) := by decide +kernel
theorem d_Re_readFeasts_71 : decode m_Re_readFeasts.2.1 71 = .ok (.invokevirtual 72, 3) := by decide +kernel
theorem d_Re_readFeasts_74 : decode m_Re_readFeasts.2.1 74 = .ok (.bipush 17, 2) := by decide +kernel
theorem d_Re_readFeasts_76 : decode m_Re_readFeasts.2.1 76 = .ok (.if_icmp .ne 10, 3) := by decide +kernel
theorem d_Re_readFeasts_86 : decode m_Re_readFeasts.2.1 86 = .ok (.aload_n 0, 1) := by decide +kernel
theorem d_Re_readFeasts_87 : decode m_Re_readFeasts.2.1 87 = .ok (.invokevirtual 79, 3) := by decide +kernel
abbrev m_Re_takeStep : aw_MI := (⟨"MaypoleGreen$Reader", "takeStep", "()Z"⟩, prog_10_method_12_code, 5, some .boolean)
theorem lk_Re_79 : Cond.methodLink "MaypoleGreen$Reader" 79 m_Re_takeStep.1 ∈ aw_T := aw_in 743 (by decide +kernel) rfl
theorem k_Re_takeStep : aw_K m_Re_takeStep 0 := ⟨aw_in 746 (by decide +kernel) rfl, aw_in 6 (by decide +kernel) rfl, ⟨by decide, by decide, by decide +kernel⟩, by decide, by decide +kernel⟩
theorem in_Re_takeStep : Cond.instanceMethod m_Re_takeStep.1 ∈ aw_T := aw_in 745 (by decide +kernel) rfl
theorem se_Re_takeStep : Cond.selects m_Re_takeStep.1.cls m_Re_takeStep.1 m_Re_takeStep.1 ∈ aw_T := aw_inP 21 (by decide +kernel) rfl
theorem d_Re_readFeasts_90 : decode m_Re_readFeasts.2.1 90 = .ok (.istore 5, 2) := by decide +kernel
theorem d_Re_readFeasts_92 : decode m_Re_readFeasts.2.1 92 = .ok (.iinc 6 1, 3) := by decide +kernel
theorem d_Re_readFeasts_95 : decode m_Re_readFeasts.2.1 95 = .ok (.goto (-49), 3) := by decide +kernel
theorem d_Re_readFeasts_79 : decode m_Re_readFeasts.2.1 79 = .ok (.aload_n 0, 1) := by decide +kernel
theorem d_Re_readFeasts_80 : decode m_Re_readFeasts.2.1 80 = .ok (.invokevirtual 76, 3) := by decide +kernel
abbrev m_Re_takeEnd : aw_MI := (⟨"MaypoleGreen$Reader", "takeEnd", "()Z"⟩, prog_10_method_11_code, 1, some .boolean)
theorem lk_Re_76 : Cond.methodLink "MaypoleGreen$Reader" 76 m_Re_takeEnd.1 ∈ aw_T := aw_in 739 (by decide +kernel) rfl
theorem k_Re_takeEnd : aw_K m_Re_takeEnd 0 := ⟨aw_in 742 (by decide +kernel) rfl, aw_in 6 (by decide +kernel) rfl, ⟨by decide, by decide, by decide +kernel⟩, by decide, by decide +kernel⟩
theorem in_Re_takeEnd : Cond.instanceMethod m_Re_takeEnd.1 ∈ aw_T := aw_in 741 (by decide +kernel) rfl
theorem se_Re_takeEnd : Cond.selects m_Re_takeEnd.1.cls m_Re_takeEnd.1 m_Re_takeEnd.1 ∈ aw_T := aw_inP 20 (by decide +kernel) rfl
theorem d_Re_readFeasts_83 : decode m_Re_readFeasts.2.1 83 = .ok (.goto 7, 3) := by decide +kernel
theorem d_Re_takeEnd_0 : decode m_Re_takeEnd.2.1 0 = .ok (.aload_n 0, 1) := by decide +kernel
theorem d_Re_takeEnd_1 : decode m_Re_takeEnd.2.1 1 = .ok (.getfield 69, 3) := by decide +kernel
theorem d_Re_takeEnd_4 : decode m_Re_takeEnd.2.1 4 = .ok (.ifCond .ne 12, 3) := by decide +kernel
theorem d_Re_takeEnd_16 : decode m_Re_takeEnd.2.1 16 = .ok (.aload_n 0, 1) := by decide +kernel
theorem d_Re_takeEnd_17 : decode m_Re_takeEnd.2.1 17 = .ok (.dup, 1) := by decide +kernel
theorem d_Re_takeEnd_18 : decode m_Re_takeEnd.2.1 18 = .ok (.getfield 69, 3) := by decide +kernel
theorem d_Re_takeEnd_21 : decode m_Re_takeEnd.2.1 21 = .ok (.iconst 1, 1) := by decide +kernel
theorem d_Re_takeEnd_22 : decode m_Re_takeEnd.2.1 22 = .ok (.isub, 1) := by decide +kernel
theorem d_Re_takeEnd_23 : decode m_Re_takeEnd.2.1 23 = .ok (.putfield 69, 3) := by decide +kernel
theorem d_Re_takeEnd_26 : decode m_Re_takeEnd.2.1 26 = .ok (.aload_n 0, 1) := by decide +kernel
theorem d_Re_takeEnd_27 : decode m_Re_takeEnd.2.1 27 = .ok (.getfield 59, 3) := by decide +kernel
theorem d_Re_takeEnd_30 : decode m_Re_takeEnd.2.1 30 = .ok (.getfield 153, 3) := by decide +kernel
theorem f_Re_153 : aw_F "MaypoleGreen$Reader" 153 4 6 true := ⟨cR4, cT4, 7, fun k => cY4.getD k .int, rfl, ci4, cy4, cn4, rfl, by decide, aw_in 107 (by decide +kernel) rfl, rfl, rfl, rfl⟩
theorem d_Re_takeEnd_33 : decode m_Re_takeEnd.2.1 33 = .ok (.aload_n 0, 1) := by decide +kernel
theorem d_Re_takeEnd_34 : decode m_Re_takeEnd.2.1 34 = .ok (.getfield 18, 3) := by decide +kernel
theorem f_Re_18 : aw_F "MaypoleGreen$Reader" 18 5 9 true := ⟨cR5, cT5, 10, fun k => cY5.getD k .int, rfl, ci5, cy5, cn5, rfl, by decide, aw_in 298 (by decide +kernel) rfl, rfl, rfl, rfl⟩
theorem d_Re_takeEnd_37 : decode m_Re_takeEnd.2.1 37 = .ok (.aload_n 0, 1) := by decide +kernel
theorem d_Re_takeEnd_38 : decode m_Re_takeEnd.2.1 38 = .ok (.getfield 69, 3) := by decide +kernel
theorem d_Re_takeEnd_41 : decode m_Re_takeEnd.2.1 41 = .ok (.iaload, 1) := by decide +kernel
theorem d_Re_takeEnd_42 : decode m_Re_takeEnd.2.1 42 = .ok (.aload_n 0, 1) := by decide +kernel
theorem d_Re_takeEnd_43 : decode m_Re_takeEnd.2.1 43 = .ok (.getfield 59, 3) := by decide +kernel
theorem d_Re_takeEnd_46 : decode m_Re_takeEnd.2.1 46 = .ok (.getfield 156, 3) := by decide +kernel
theorem f_Re_156 : aw_F "MaypoleGreen$Reader" 156 4 1 false := ⟨cR4, cT4, 7, fun k => cY4.getD k .int, rfl, ci4, cy4, cn4, rfl, by decide, aw_in 91 (by decide +kernel) rfl, rfl, rfl, rfl⟩
theorem d_Re_takeEnd_49 : decode m_Re_takeEnd.2.1 49 = .ok (.iastore, 1) := by decide +kernel
theorem d_Re_takeEnd_50 : decode m_Re_takeEnd.2.1 50 = .ok (.aload_n 0, 1) := by decide +kernel
theorem d_Re_takeEnd_51 : decode m_Re_takeEnd.2.1 51 = .ok (.getfield 12, 3) := by decide +kernel
theorem d_Re_takeEnd_54 : decode m_Re_takeEnd.2.1 54 = .ok (.invokevirtual 106, 3) := by decide +kernel
theorem d_Re_takeEnd_57 : decode m_Re_takeEnd.2.1 57 = .ok (.aload_n 0, 1) := by decide +kernel
theorem d_Re_takeEnd_58 : decode m_Re_takeEnd.2.1 58 = .ok (.getfield 12, 3) := by decide +kernel
theorem d_Re_takeEnd_61 : decode m_Re_takeEnd.2.1 61 = .ok (.invokevirtual 116, 3) := by decide +kernel
theorem d_Re_takeEnd_64 : decode m_Re_takeEnd.2.1 64 = .ok (.ireturn, 1) := by decide +kernel
theorem d_Re_takeEnd_7 : decode m_Re_takeEnd.2.1 7 = .ok (.aload_n 0, 1) := by decide +kernel
theorem d_Re_takeEnd_8 : decode m_Re_takeEnd.2.1 8 = .ok (.getfield 12, 3) := by decide +kernel
theorem d_Re_takeEnd_11 : decode m_Re_takeEnd.2.1 11 = .ok (.iconst 2, 1) := by decide +kernel
theorem d_Re_takeEnd_12 : decode m_Re_takeEnd.2.1 12 = .ok (.invokevirtual 82, 3) := by decide +kernel
theorem d_Re_takeEnd_15 : decode m_Re_takeEnd.2.1 15 = .ok (.ireturn, 1) := by decide +kernel
theorem d_Re_takeStep_0 : decode m_Re_takeStep.2.1 0 = .ok (.aload_n 0, 1) := by decide +kernel
theorem d_Re_takeStep_1 : decode m_Re_takeStep.2.1 1 = .ok (.getfield 12, 3) := by decide +kernel
theorem d_Re_takeStep_4 : decode m_Re_takeStep.2.1 4 = .ok (.invokevirtual 72, 3) := by decide +kernel
theorem d_Re_takeStep_7 : decode m_Re_takeStep.2.1 7 = .ok (.istore_n 1, 1) := by decide +kernel
theorem d_Re_takeStep_8 : decode m_Re_takeStep.2.1 8 = .ok (.iload_n 1, 1) := by decide +kernel
theorem d_Re_takeStep_9 : decode m_Re_takeStep.2.1 9 = .ok (.invokestatic 159, 3) := by decide +kernel
abbrev m_Re_isStep : aw_MI := (⟨"MaypoleGreen$Reader", "isStep", "(I)Z"⟩, prog_10_method_13_code, 1, some .boolean)
theorem lk_Re_159 : Cond.methodLink "MaypoleGreen$Reader" 159 m_Re_isStep.1 ∈ aw_T := aw_in 747 (by decide +kernel) rfl
theorem k_Re_isStep : aw_K m_Re_isStep 1 := ⟨aw_in 749 (by decide +kernel) rfl, aw_in 6 (by decide +kernel) rfl, ⟨by decide, by decide, by decide +kernel⟩, by decide, by decide +kernel⟩
theorem st_Re_isStep : Cond.static m_Re_isStep.1 ∈ aw_T := aw_in 748 (by decide +kernel) rfl
theorem d_Re_takeStep_12 : decode m_Re_takeStep.2.1 12 = .ok (.ifCond .ne 12, 3) := by decide +kernel
theorem d_Re_takeStep_24 : decode m_Re_takeStep.2.1 24 = .ok (.aload_n 0, 1) := by decide +kernel
theorem d_Re_takeStep_25 : decode m_Re_takeStep.2.1 25 = .ok (.getfield 59, 3) := by decide +kernel
theorem d_Re_takeStep_28 : decode m_Re_takeStep.2.1 28 = .ok (.getfield 156, 3) := by decide +kernel
theorem d_Re_takeStep_31 : decode m_Re_takeStep.2.1 31 = .ok (.bipush 30, 2) := by decide +kernel
theorem d_Re_takeStep_33 : decode m_Re_takeStep.2.1 33 = .ok (.if_icmp .lt 13, 3) := by decide +kernel
theorem d_Re_takeStep_46 : decode m_Re_takeStep.2.1 46 = .ok (.iload_n 1, 1) := by decide +kernel
theorem d_Re_takeStep_47 : decode m_Re_takeStep.2.1 47 = .ok (.bipush 11, 2) := by decide +kernel
theorem d_Re_takeStep_49 : decode m_Re_takeStep.2.1 49 = .ok (.if_icmp .eq 9, 3) := by decide +kernel
theorem d_Re_takeStep_58 : decode m_Re_takeStep.2.1 58 = .ok (.iconst 1, 1) := by decide +kernel
theorem d_Re_takeStep_59 : decode m_Re_takeStep.2.1 59 = .ok (.goto 4, 3) := by decide +kernel
theorem d_Re_takeStep_63 : decode m_Re_takeStep.2.1 63 = .ok (.istore_n 2, 1) := by decide +kernel
theorem d_Re_takeStep_52 : decode m_Re_takeStep.2.1 52 = .ok (.iload_n 1, 1) := by decide +kernel
theorem d_Re_takeStep_53 : decode m_Re_takeStep.2.1 53 = .ok (.bipush 16, 2) := by decide +kernel
theorem d_Re_takeStep_55 : decode m_Re_takeStep.2.1 55 = .ok (.if_icmp .ne 7, 3) := by decide +kernel
theorem d_Re_takeStep_62 : decode m_Re_takeStep.2.1 62 = .ok (.iconst 0, 1) := by decide +kernel
theorem d_Re_takeStep_36 : decode m_Re_takeStep.2.1 36 = .ok (.aload_n 0, 1) := by decide +kernel
theorem d_Re_takeStep_37 : decode m_Re_takeStep.2.1 37 = .ok (.getfield 12, 3) := by decide +kernel
theorem d_Re_takeStep_40 : decode m_Re_takeStep.2.1 40 = .ok (.bipush 6, 2) := by decide +kernel
theorem d_Re_takeStep_42 : decode m_Re_takeStep.2.1 42 = .ok (.invokevirtual 82, 3) := by decide +kernel
theorem d_Re_takeStep_45 : decode m_Re_takeStep.2.1 45 = .ok (.ireturn, 1) := by decide +kernel
theorem d_Re_takeStep_15 : decode m_Re_takeStep.2.1 15 = .ok (.aload_n 0, 1) := by decide +kernel
theorem d_Re_takeStep_16 : decode m_Re_takeStep.2.1 16 = .ok (.getfield 12, 3) := by decide +kernel
theorem d_Re_takeStep_19 : decode m_Re_takeStep.2.1 19 = .ok (.iconst 2, 1) := by decide +kernel
theorem d_Re_takeStep_20 : decode m_Re_takeStep.2.1 20 = .ok (.invokevirtual 82, 3) := by decide +kernel
theorem d_Re_takeStep_23 : decode m_Re_takeStep.2.1 23 = .ok (.ireturn, 1) := by decide +kernel
theorem d_Re_takeStep_64 : decode m_Re_takeStep.2.1 64 = .ok (.iload_n 2, 1) := by decide +kernel
theorem d_Re_takeStep_65 : decode m_Re_takeStep.2.1 65 = .ok (.ifCond .eq 21, 3) := by decide +kernel
theorem d_Re_takeStep_86 : decode m_Re_takeStep.2.1 86 = .ok (.aload_n 0, 1) := by decide +kernel
theorem d_Re_takeStep_87 : decode m_Re_takeStep.2.1 87 = .ok (.getfield 59, 3) := by decide +kernel
theorem d_Re_takeStep_90 : decode m_Re_takeStep.2.1 90 = .ok (.getfield 156, 3) := by decide +kernel
theorem d_Re_takeStep_93 : decode m_Re_takeStep.2.1 93 = .ok (.istore_n 3, 1) := by decide +kernel
theorem d_Re_takeStep_94 : decode m_Re_takeStep.2.1 94 = .ok (.aload_n 0, 1) := by decide +kernel
theorem d_Re_takeStep_95 : decode m_Re_takeStep.2.1 95 = .ok (.getfield 59, 3) := by decide +kernel
theorem d_Re_takeStep_98 : decode m_Re_takeStep.2.1 98 = .ok (.getfield 162, 3) := by decide +kernel
theorem f_Re_162 : aw_F "MaypoleGreen$Reader" 162 4 2 true := ⟨cR4, cT4, 7, fun k => cY4.getD k .int, rfl, ci4, cy4, cn4, rfl, by decide, aw_in 95 (by decide +kernel) rfl, rfl, rfl, rfl⟩
theorem d_Re_takeStep_101 : decode m_Re_takeStep.2.1 101 = .ok (.iload_n 3, 1) := by decide +kernel
theorem d_Re_takeStep_102 : decode m_Re_takeStep.2.1 102 = .ok (.iload_n 1, 1) := by decide +kernel
theorem d_Re_takeStep_103 : decode m_Re_takeStep.2.1 103 = .ok (.iastore, 1) := by decide +kernel
theorem d_Re_takeStep_104 : decode m_Re_takeStep.2.1 104 = .ok (.aload_n 0, 1) := by decide +kernel
theorem d_Re_takeStep_105 : decode m_Re_takeStep.2.1 105 = .ok (.getfield 59, 3) := by decide +kernel
theorem d_Re_takeStep_108 : decode m_Re_takeStep.2.1 108 = .ok (.getfield 153, 3) := by decide +kernel
theorem d_Re_takeStep_111 : decode m_Re_takeStep.2.1 111 = .ok (.iload_n 3, 1) := by decide +kernel
theorem d_Re_takeStep_112 : decode m_Re_takeStep.2.1 112 = .ok (.iload_n 3, 1) := by decide +kernel
theorem d_Re_takeStep_113 : decode m_Re_takeStep.2.1 113 = .ok (.iconst 1, 1) := by decide +kernel
theorem d_Re_takeStep_114 : decode m_Re_takeStep.2.1 114 = .ok (.iadd, 1) := by decide +kernel
theorem d_Re_takeStep_115 : decode m_Re_takeStep.2.1 115 = .ok (.iastore, 1) := by decide +kernel
theorem d_Re_takeStep_116 : decode m_Re_takeStep.2.1 116 = .ok (.aload_n 0, 1) := by decide +kernel
theorem d_Re_takeStep_117 : decode m_Re_takeStep.2.1 117 = .ok (.getfield 59, 3) := by decide +kernel
theorem d_Re_takeStep_120 : decode m_Re_takeStep.2.1 120 = .ok (.dup, 1) := by decide +kernel
theorem d_Re_takeStep_121 : decode m_Re_takeStep.2.1 121 = .ok (.getfield 156, 3) := by decide +kernel
theorem d_Re_takeStep_124 : decode m_Re_takeStep.2.1 124 = .ok (.iconst 1, 1) := by decide +kernel
theorem d_Re_takeStep_125 : decode m_Re_takeStep.2.1 125 = .ok (.iadd, 1) := by decide +kernel
theorem d_Re_takeStep_126 : decode m_Re_takeStep.2.1 126 = .ok (.putfield 156, 3) := by decide +kernel
theorem d_Re_takeStep_129 : decode m_Re_takeStep.2.1 129 = .ok (.iload_n 2, 1) := by decide +kernel
theorem d_Re_takeStep_130 : decode m_Re_takeStep.2.1 130 = .ok (.ifCond .eq 23, 3) := by decide +kernel
theorem d_Re_takeStep_153 : decode m_Re_takeStep.2.1 153 = .ok (.aload_n 0, 1) := by decide +kernel
theorem d_Re_takeStep_154 : decode m_Re_takeStep.2.1 154 = .ok (.getfield 12, 3) := by decide +kernel
theorem d_Re_takeStep_157 : decode m_Re_takeStep.2.1 157 = .ok (.invokevirtual 106, 3) := by decide +kernel
theorem d_Re_takeStep_160 : decode m_Re_takeStep.2.1 160 = .ok (.iload_n 1, 1) := by decide +kernel
theorem d_Re_takeStep_161 : decode m_Re_takeStep.2.1 161 = .ok (.bipush 11, 2) := by decide +kernel
theorem d_Re_takeStep_163 : decode m_Re_takeStep.2.1 163 = .ok (.if_icmp .ne 11, 3) := by decide +kernel
theorem d_Re_takeStep_174 : decode m_Re_takeStep.2.1 174 = .ok (.iload_n 1, 1) := by decide +kernel
theorem d_Re_takeStep_175 : decode m_Re_takeStep.2.1 175 = .ok (.istore 4, 2) := by decide +kernel
theorem d_Re_takeStep_166 : decode m_Re_takeStep.2.1 166 = .ok (.aload_n 0, 1) := by decide +kernel
theorem d_Re_takeStep_167 : decode m_Re_takeStep.2.1 167 = .ok (.iload_n 3, 1) := by decide +kernel
theorem d_Re_takeStep_168 : decode m_Re_takeStep.2.1 168 = .ok (.invokevirtual 165, 3) := by decide +kernel
abbrev m_Re_testForm : aw_MI := (⟨"MaypoleGreen$Reader", "testForm", "(I)I"⟩, prog_10_method_14_code, 3, some .int)
theorem lk_Re_165 : Cond.methodLink "MaypoleGreen$Reader" 165 m_Re_testForm.1 ∈ aw_T := aw_in 750 (by decide +kernel) rfl
theorem k_Re_testForm : aw_K m_Re_testForm 1 := ⟨aw_in 753 (by decide +kernel) rfl, aw_in 6 (by decide +kernel) rfl, ⟨by decide, by decide, by decide +kernel⟩, by decide, by decide +kernel⟩
theorem in_Re_testForm : Cond.instanceMethod m_Re_testForm.1 ∈ aw_T := aw_in 752 (by decide +kernel) rfl
theorem se_Re_testForm : Cond.selects m_Re_testForm.1.cls m_Re_testForm.1 m_Re_testForm.1 ∈ aw_T := aw_inP 22 (by decide +kernel) rfl
theorem d_Re_takeStep_171 : decode m_Re_takeStep.2.1 171 = .ok (.goto 4, 3) := by decide +kernel
theorem d_Re_takeStep_133 : decode m_Re_takeStep.2.1 133 = .ok (.aload_n 0, 1) := by decide +kernel
theorem d_Re_takeStep_134 : decode m_Re_takeStep.2.1 134 = .ok (.getfield 18, 3) := by decide +kernel
theorem d_Re_takeStep_137 : decode m_Re_takeStep.2.1 137 = .ok (.aload_n 0, 1) := by decide +kernel
theorem d_Re_takeStep_138 : decode m_Re_takeStep.2.1 138 = .ok (.getfield 69, 3) := by decide +kernel
theorem d_Re_takeStep_141 : decode m_Re_takeStep.2.1 141 = .ok (.iload_n 3, 1) := by decide +kernel
theorem d_Re_takeStep_142 : decode m_Re_takeStep.2.1 142 = .ok (.iastore, 1) := by decide +kernel
theorem d_Re_takeStep_143 : decode m_Re_takeStep.2.1 143 = .ok (.aload_n 0, 1) := by decide +kernel
theorem d_Re_takeStep_144 : decode m_Re_takeStep.2.1 144 = .ok (.dup, 1) := by decide +kernel
theorem d_Re_takeStep_145 : decode m_Re_takeStep.2.1 145 = .ok (.getfield 69, 3) := by decide +kernel
theorem d_Re_takeStep_148 : decode m_Re_takeStep.2.1 148 = .ok (.iconst 1, 1) := by decide +kernel
theorem d_Re_takeStep_149 : decode m_Re_takeStep.2.1 149 = .ok (.iadd, 1) := by decide +kernel
theorem d_Re_takeStep_150 : decode m_Re_takeStep.2.1 150 = .ok (.putfield 69, 3) := by decide +kernel
theorem d_Re_takeStep_68 : decode m_Re_takeStep.2.1 68 = .ok (.aload_n 0, 1) := by decide +kernel
theorem d_Re_takeStep_69 : decode m_Re_takeStep.2.1 69 = .ok (.getfield 69, 3) := by decide +kernel
theorem d_Re_takeStep_72 : decode m_Re_takeStep.2.1 72 = .ok (.iconst 3, 1) := by decide +kernel
theorem d_Re_takeStep_73 : decode m_Re_takeStep.2.1 73 = .ok (.if_icmp .lt 13, 3) := by decide +kernel
theorem d_Re_takeStep_76 : decode m_Re_takeStep.2.1 76 = .ok (.aload_n 0, 1) := by decide +kernel
theorem d_Re_takeStep_77 : decode m_Re_takeStep.2.1 77 = .ok (.getfield 12, 3) := by decide +kernel
theorem d_Re_takeStep_80 : decode m_Re_takeStep.2.1 80 = .ok (.bipush 7, 2) := by decide +kernel
theorem d_Re_takeStep_82 : decode m_Re_takeStep.2.1 82 = .ok (.invokevirtual 82, 3) := by decide +kernel
theorem d_Re_takeStep_85 : decode m_Re_takeStep.2.1 85 = .ok (.ireturn, 1) := by decide +kernel
theorem d_Re_takeStep_177 : decode m_Re_takeStep.2.1 177 = .ok (.aload_n 0, 1) := by decide +kernel
theorem d_Re_takeStep_178 : decode m_Re_takeStep.2.1 178 = .ok (.iload_n 3, 1) := by decide +kernel
theorem d_Re_takeStep_179 : decode m_Re_takeStep.2.1 179 = .ok (.iload 4, 2) := by decide +kernel
theorem d_Re_takeStep_181 : decode m_Re_takeStep.2.1 181 = .ok (.invokevirtual 168, 3) := by decide +kernel
abbrev m_Re_takeRest : aw_MI := (⟨"MaypoleGreen$Reader", "takeRest", "(II)Z"⟩, prog_10_method_15_code, 3, some .boolean)
theorem lk_Re_168 : Cond.methodLink "MaypoleGreen$Reader" 168 m_Re_takeRest.1 ∈ aw_T := aw_in 754 (by decide +kernel) rfl
theorem k_Re_takeRest : aw_K m_Re_takeRest 2 := ⟨aw_in 757 (by decide +kernel) rfl, aw_in 6 (by decide +kernel) rfl, ⟨by decide, by decide, by decide +kernel⟩, by decide, by decide +kernel⟩
theorem in_Re_takeRest : Cond.instanceMethod m_Re_takeRest.1 ∈ aw_T := aw_in 756 (by decide +kernel) rfl
theorem se_Re_takeRest : Cond.selects m_Re_takeRest.1.cls m_Re_takeRest.1 m_Re_takeRest.1 ∈ aw_T := aw_inP 23 (by decide +kernel) rfl
theorem d_Re_takeStep_184 : decode m_Re_takeStep.2.1 184 = .ok (.ifCond .eq 17, 3) := by decide +kernel
theorem d_Re_takeStep_201 : decode m_Re_takeStep.2.1 201 = .ok (.iconst 0, 1) := by decide +kernel
theorem d_Re_takeStep_202 : decode m_Re_takeStep.2.1 202 = .ok (.ireturn, 1) := by decide +kernel
theorem d_Re_takeStep_187 : decode m_Re_takeStep.2.1 187 = .ok (.aload_n 0, 1) := by decide +kernel
theorem d_Re_takeStep_188 : decode m_Re_takeStep.2.1 188 = .ok (.getfield 12, 3) := by decide +kernel
theorem d_Re_takeStep_191 : decode m_Re_takeStep.2.1 191 = .ok (.invokevirtual 116, 3) := by decide +kernel
theorem d_Re_takeStep_194 : decode m_Re_takeStep.2.1 194 = .ok (.ifCond .eq 7, 3) := by decide +kernel
theorem d_Re_takeStep_197 : decode m_Re_takeStep.2.1 197 = .ok (.iconst 1, 1) := by decide +kernel
theorem d_Re_takeStep_198 : decode m_Re_takeStep.2.1 198 = .ok (.goto 4, 3) := by decide +kernel
theorem d_Re_isStep_0 : decode m_Re_isStep.2.1 0 = .ok (.iload_n 0, 1) := by decide +kernel
theorem d_Re_isStep_1 : decode m_Re_isStep.2.1 1 = .ok (.iconst 4, 1) := by decide +kernel
theorem d_Re_isStep_2 : decode m_Re_isStep.2.1 2 = .ok (.if_icmp .eq 45, 3) := by decide +kernel
theorem d_Re_isStep_47 : decode m_Re_isStep.2.1 47 = .ok (.iconst 1, 1) := by decide +kernel
theorem d_Re_isStep_48 : decode m_Re_isStep.2.1 48 = .ok (.goto 4, 3) := by decide +kernel
theorem d_Re_isStep_52 : decode m_Re_isStep.2.1 52 = .ok (.ireturn, 1) := by decide +kernel
theorem d_Re_isStep_5 : decode m_Re_isStep.2.1 5 = .ok (.iload_n 0, 1) := by decide +kernel
theorem d_Re_isStep_6 : decode m_Re_isStep.2.1 6 = .ok (.bipush 7, 2) := by decide +kernel
theorem d_Re_isStep_8 : decode m_Re_isStep.2.1 8 = .ok (.if_icmp .eq 39, 3) := by decide +kernel
theorem d_Re_isStep_11 : decode m_Re_isStep.2.1 11 = .ok (.iload_n 0, 1) := by decide +kernel
theorem d_Re_isStep_12 : decode m_Re_isStep.2.1 12 = .ok (.bipush 8, 2) := by decide +kernel
theorem d_Re_isStep_14 : decode m_Re_isStep.2.1 14 = .ok (.if_icmp .eq 33, 3) := by decide +kernel
theorem d_Re_isStep_17 : decode m_Re_isStep.2.1 17 = .ok (.iload_n 0, 1) := by decide +kernel
theorem d_Re_isStep_18 : decode m_Re_isStep.2.1 18 = .ok (.bipush 9, 2) := by decide +kernel
theorem d_Re_isStep_20 : decode m_Re_isStep.2.1 20 = .ok (.if_icmp .eq 27, 3) := by decide +kernel
theorem d_Re_isStep_23 : decode m_Re_isStep.2.1 23 = .ok (.iload_n 0, 1) := by decide +kernel
theorem d_Re_isStep_24 : decode m_Re_isStep.2.1 24 = .ok (.bipush 10, 2) := by decide +kernel
theorem d_Re_isStep_26 : decode m_Re_isStep.2.1 26 = .ok (.if_icmp .eq 21, 3) := by decide +kernel
theorem d_Re_isStep_29 : decode m_Re_isStep.2.1 29 = .ok (.iload_n 0, 1) := by decide +kernel
theorem d_Re_isStep_30 : decode m_Re_isStep.2.1 30 = .ok (.bipush 11, 2) := by decide +kernel
theorem d_Re_isStep_32 : decode m_Re_isStep.2.1 32 = .ok (.if_icmp .eq 15, 3) := by decide +kernel
theorem d_Re_isStep_35 : decode m_Re_isStep.2.1 35 = .ok (.iload_n 0, 1) := by decide +kernel
theorem d_Re_isStep_36 : decode m_Re_isStep.2.1 36 = .ok (.bipush 16, 2) := by decide +kernel
theorem d_Re_isStep_38 : decode m_Re_isStep.2.1 38 = .ok (.if_icmp .eq 9, 3) := by decide +kernel
theorem d_Re_isStep_41 : decode m_Re_isStep.2.1 41 = .ok (.iload_n 0, 1) := by decide +kernel
theorem d_Re_isStep_42 : decode m_Re_isStep.2.1 42 = .ok (.bipush 18, 2) := by decide +kernel
theorem d_Re_isStep_44 : decode m_Re_isStep.2.1 44 = .ok (.if_icmp .ne 7, 3) := by decide +kernel
theorem d_Re_isStep_51 : decode m_Re_isStep.2.1 51 = .ok (.iconst 0, 1) := by decide +kernel
theorem d_Re_testForm_0 : decode m_Re_testForm.2.1 0 = .ok (.aload_n 0, 1) := by decide +kernel
theorem d_Re_testForm_1 : decode m_Re_testForm.2.1 1 = .ok (.getfield 12, 3) := by decide +kernel
theorem d_Re_testForm_4 : decode m_Re_testForm.2.1 4 = .ok (.invokevirtual 72, 3) := by decide +kernel
theorem d_Re_testForm_7 : decode m_Re_testForm.2.1 7 = .ok (.istore_n 2, 1) := by decide +kernel
theorem d_Re_testForm_8 : decode m_Re_testForm.2.1 8 = .ok (.iload_n 2, 1) := by decide +kernel
theorem d_Re_testForm_9 : decode m_Re_testForm.2.1 9 = .ok (.bipush 12, 2) := by decide +kernel
theorem d_Re_testForm_11 : decode m_Re_testForm.2.1 11 = .ok (.if_icmp .eq 24, 3) := by decide +kernel
theorem d_Re_testForm_35 : decode m_Re_testForm.2.1 35 = .ok (.aload_n 0, 1) := by decide +kernel
theorem d_Re_testForm_36 : decode m_Re_testForm.2.1 36 = .ok (.getfield 59, 3) := by decide +kernel
theorem d_Re_testForm_39 : decode m_Re_testForm.2.1 39 = .ok (.getfield 172, 3) := by decide +kernel
theorem f_Re_172 : aw_F "MaypoleGreen$Reader" 172 4 3 true := ⟨cR4, cT4, 7, fun k => cY4.getD k .int, rfl, ci4, cy4, cn4, rfl, by decide, aw_in 98 (by decide +kernel) rfl, rfl, rfl, rfl⟩
theorem d_Re_testForm_42 : decode m_Re_testForm.2.1 42 = .ok (.iload_n 1, 1) := by decide +kernel
theorem d_Re_testForm_43 : decode m_Re_testForm.2.1 43 = .ok (.iload_n 2, 1) := by decide +kernel
theorem d_Re_testForm_44 : decode m_Re_testForm.2.1 44 = .ok (.iastore, 1) := by decide +kernel
theorem d_Re_testForm_45 : decode m_Re_testForm.2.1 45 = .ok (.aload_n 0, 1) := by decide +kernel
theorem d_Re_testForm_46 : decode m_Re_testForm.2.1 46 = .ok (.getfield 12, 3) := by decide +kernel
theorem d_Re_testForm_49 : decode m_Re_testForm.2.1 49 = .ok (.invokevirtual 106, 3) := by decide +kernel
theorem d_Re_testForm_52 : decode m_Re_testForm.2.1 52 = .ok (.iload_n 2, 1) := by decide +kernel
theorem d_Re_testForm_53 : decode m_Re_testForm.2.1 53 = .ok (.ireturn, 1) := by decide +kernel
theorem d_Re_testForm_14 : decode m_Re_testForm.2.1 14 = .ok (.iload_n 2, 1) := by decide +kernel
theorem d_Re_testForm_15 : decode m_Re_testForm.2.1 15 = .ok (.bipush 13, 2) := by decide +kernel
theorem d_Re_testForm_17 : decode m_Re_testForm.2.1 17 = .ok (.if_icmp .eq 18, 3) := by decide +kernel
theorem d_Re_testForm_20 : decode m_Re_testForm.2.1 20 = .ok (.iload_n 2, 1) := by decide +kernel
theorem d_Re_testForm_21 : decode m_Re_testForm.2.1 21 = .ok (.bipush 14, 2) := by decide +kernel
theorem d_Re_testForm_23 : decode m_Re_testForm.2.1 23 = .ok (.if_icmp .eq 12, 3) := by decide +kernel
theorem d_Re_testForm_26 : decode m_Re_testForm.2.1 26 = .ok (.iload_n 2, 1) := by decide +kernel
theorem d_Re_testForm_27 : decode m_Re_testForm.2.1 27 = .ok (.bipush 15, 2) := by decide +kernel
theorem d_Re_testForm_29 : decode m_Re_testForm.2.1 29 = .ok (.if_icmp .eq 6, 3) := by decide +kernel
theorem d_Re_testForm_32 : decode m_Re_testForm.2.1 32 = .ok (.bipush 11, 2) := by decide +kernel
theorem d_Re_testForm_34 : decode m_Re_testForm.2.1 34 = .ok (.ireturn, 1) := by decide +kernel
theorem d_Re_takeRest_0 : decode m_Re_takeRest.2.1 0 = .ok (.iload_n 2, 1) := by decide +kernel
theorem d_Re_takeRest_1 : decode m_Re_takeRest.2.1 1 = .ok (.tableswitch 248 4 16 #[67, 248, 248, 248, 99, 108, 248, 239, 141, 147, 179, 214, 132], 67) := by decide +kernel
theorem d_Re_takeRest_249 : decode m_Re_takeRest.2.1 249 = .ok (.iconst 1, 1) := by decide +kernel
theorem d_Re_takeRest_250 : decode m_Re_takeRest.2.1 250 = .ok (.ireturn, 1) := by decide +kernel
theorem d_Re_takeRest_68 : decode m_Re_takeRest.2.1 68 = .ok (.aload_n 0, 1) := by decide +kernel
theorem d_Re_takeRest_69 : decode m_Re_takeRest.2.1 69 = .ok (.iload_n 1, 1) := by decide +kernel
theorem d_Re_takeRest_70 : decode m_Re_takeRest.2.1 70 = .ok (.iconst 0, 1) := by decide +kernel
theorem d_Re_takeRest_71 : decode m_Re_takeRest.2.1 71 = .ok (.aload_n 0, 1) := by decide +kernel
theorem d_Re_takeRest_72 : decode m_Re_takeRest.2.1 72 = .ok (.getfield 22, 3) := by decide +kernel
theorem d_Re_takeRest_75 : decode m_Re_takeRest.2.1 75 = .ok (.invokevirtual 143, 3) := by decide +kernel
theorem d_Re_takeRest_78 : decode m_Re_takeRest.2.1 78 = .ok (.iconst 1, 1) := by decide +kernel
theorem d_Re_takeRest_79 : decode m_Re_takeRest.2.1 79 = .ok (.isub, 1) := by decide +kernel
theorem d_Re_takeRest_80 : decode m_Re_takeRest.2.1 80 = .ok (.invokevirtual 175, 3) := by decide +kernel
abbrev m_Re_takeFirst : aw_MI := (⟨"MaypoleGreen$Reader", "takeFirst", "(III)Z"⟩, prog_10_method_16_code, 5, some .boolean)
theorem lk_Re_175 : Cond.methodLink "MaypoleGreen$Reader" 175 m_Re_takeFirst.1 ∈ aw_T := aw_in 758 (by decide +kernel) rfl
theorem k_Re_takeFirst : aw_K m_Re_takeFirst 3 := ⟨aw_in 761 (by decide +kernel) rfl, aw_in 6 (by decide +kernel) rfl, ⟨by decide, by decide, by decide +kernel⟩, by decide, by decide +kernel⟩
theorem in_Re_takeFirst : Cond.instanceMethod m_Re_takeFirst.1 ∈ aw_T := aw_in 760 (by decide +kernel) rfl
theorem se_Re_takeFirst : Cond.selects m_Re_takeFirst.1.cls m_Re_takeFirst.1 m_Re_takeFirst.1 ∈ aw_T := aw_inP 24 (by decide +kernel) rfl
theorem d_Re_takeRest_83 : decode m_Re_takeRest.2.1 83 = .ok (.ifCond .eq 15, 3) := by decide +kernel
theorem d_Re_takeRest_98 : decode m_Re_takeRest.2.1 98 = .ok (.iconst 0, 1) := by decide +kernel
theorem d_Re_takeRest_99 : decode m_Re_takeRest.2.1 99 = .ok (.ireturn, 1) := by decide +kernel
theorem d_Re_takeRest_86 : decode m_Re_takeRest.2.1 86 = .ok (.aload_n 0, 1) := by decide +kernel
theorem d_Re_takeRest_87 : decode m_Re_takeRest.2.1 87 = .ok (.iload_n 1, 1) := by decide +kernel
theorem d_Re_takeRest_88 : decode m_Re_takeRest.2.1 88 = .ok (.invokevirtual 179, 3) := by decide +kernel
abbrev m_Re_takeHow : aw_MI := (⟨"MaypoleGreen$Reader", "takeHow", "(I)Z"⟩, prog_10_method_18_code, 3, some .boolean)
theorem lk_Re_179 : Cond.methodLink "MaypoleGreen$Reader" 179 m_Re_takeHow.1 ∈ aw_T := aw_in 762 (by decide +kernel) rfl
theorem k_Re_takeHow : aw_K m_Re_takeHow 1 := ⟨aw_in 765 (by decide +kernel) rfl, aw_in 6 (by decide +kernel) rfl, ⟨by decide, by decide, by decide +kernel⟩, by decide, by decide +kernel⟩
theorem in_Re_takeHow : Cond.instanceMethod m_Re_takeHow.1 ∈ aw_T := aw_in 764 (by decide +kernel) rfl
theorem se_Re_takeHow : Cond.selects m_Re_takeHow.1.cls m_Re_takeHow.1 m_Re_takeHow.1 ∈ aw_T := aw_inP 25 (by decide +kernel) rfl
theorem d_Re_takeRest_91 : decode m_Re_takeRest.2.1 91 = .ok (.ifCond .eq 7, 3) := by decide +kernel
theorem d_Re_takeRest_94 : decode m_Re_takeRest.2.1 94 = .ok (.iconst 1, 1) := by decide +kernel
theorem d_Re_takeRest_95 : decode m_Re_takeRest.2.1 95 = .ok (.goto 4, 3) := by decide +kernel
theorem d_Re_takeRest_100 : decode m_Re_takeRest.2.1 100 = .ok (.aload_n 0, 1) := by decide +kernel
theorem d_Re_takeRest_101 : decode m_Re_takeRest.2.1 101 = .ok (.iload_n 1, 1) := by decide +kernel
theorem d_Re_takeRest_102 : decode m_Re_takeRest.2.1 102 = .ok (.iconst 1, 1) := by decide +kernel
theorem d_Re_takeRest_103 : decode m_Re_takeRest.2.1 103 = .ok (.bipush 9, 2) := by decide +kernel
theorem d_Re_takeRest_105 : decode m_Re_takeRest.2.1 105 = .ok (.invokevirtual 175, 3) := by decide +kernel
theorem d_Re_takeRest_108 : decode m_Re_takeRest.2.1 108 = .ok (.ireturn, 1) := by decide +kernel
theorem d_Re_takeRest_109 : decode m_Re_takeRest.2.1 109 = .ok (.aload_n 0, 1) := by decide +kernel
theorem d_Re_takeRest_110 : decode m_Re_takeRest.2.1 110 = .ok (.iload_n 1, 1) := by decide +kernel
theorem d_Re_takeRest_111 : decode m_Re_takeRest.2.1 111 = .ok (.invokevirtual 182, 3) := by decide +kernel
abbrev m_Re_takeKnown : aw_MI := (⟨"MaypoleGreen$Reader", "takeKnown", "(I)Z"⟩, prog_10_method_19_code, 3, some .boolean)
theorem lk_Re_182 : Cond.methodLink "MaypoleGreen$Reader" 182 m_Re_takeKnown.1 ∈ aw_T := aw_in 766 (by decide +kernel) rfl
theorem k_Re_takeKnown : aw_K m_Re_takeKnown 1 := ⟨aw_in 769 (by decide +kernel) rfl, aw_in 6 (by decide +kernel) rfl, ⟨by decide, by decide, by decide +kernel⟩, by decide, by decide +kernel⟩
theorem in_Re_takeKnown : Cond.instanceMethod m_Re_takeKnown.1 ∈ aw_T := aw_in 768 (by decide +kernel) rfl
theorem se_Re_takeKnown : Cond.selects m_Re_takeKnown.1.cls m_Re_takeKnown.1 m_Re_takeKnown.1 ∈ aw_T := aw_inP 26 (by decide +kernel) rfl
theorem d_Re_takeRest_114 : decode m_Re_takeRest.2.1 114 = .ok (.ifCond .eq 17, 3) := by decide +kernel
theorem d_Re_takeRest_131 : decode m_Re_takeRest.2.1 131 = .ok (.iconst 0, 1) := by decide +kernel
theorem d_Re_takeRest_132 : decode m_Re_takeRest.2.1 132 = .ok (.ireturn, 1) := by decide +kernel
theorem d_Re_takeRest_117 : decode m_Re_takeRest.2.1 117 = .ok (.aload_n 0, 1) := by decide +kernel
theorem d_Re_takeRest_118 : decode m_Re_takeRest.2.1 118 = .ok (.iload_n 1, 1) := by decide +kernel
theorem d_Re_takeRest_119 : decode m_Re_takeRest.2.1 119 = .ok (.iconst 0, 1) := by decide +kernel
theorem d_Re_takeRest_120 : decode m_Re_takeRest.2.1 120 = .ok (.iconst 5, 1) := by decide +kernel
theorem d_Re_takeRest_121 : decode m_Re_takeRest.2.1 121 = .ok (.invokevirtual 185, 3) := by decide +kernel
abbrev m_Re_takeSecond : aw_MI := (⟨"MaypoleGreen$Reader", "takeSecond", "(III)Z"⟩, prog_10_method_17_code, 5, some .boolean)
theorem lk_Re_185 : Cond.methodLink "MaypoleGreen$Reader" 185 m_Re_takeSecond.1 ∈ aw_T := aw_in 770 (by decide +kernel) rfl
theorem k_Re_takeSecond : aw_K m_Re_takeSecond 3 := ⟨aw_in 773 (by decide +kernel) rfl, aw_in 6 (by decide +kernel) rfl, ⟨by decide, by decide, by decide +kernel⟩, by decide, by decide +kernel⟩
theorem in_Re_takeSecond : Cond.instanceMethod m_Re_takeSecond.1 ∈ aw_T := aw_in 772 (by decide +kernel) rfl
theorem se_Re_takeSecond : Cond.selects m_Re_takeSecond.1.cls m_Re_takeSecond.1 m_Re_takeSecond.1 ∈ aw_T := aw_inP 27 (by decide +kernel) rfl
theorem d_Re_takeRest_124 : decode m_Re_takeRest.2.1 124 = .ok (.ifCond .eq 7, 3) := by decide +kernel
theorem d_Re_takeRest_127 : decode m_Re_takeRest.2.1 127 = .ok (.iconst 1, 1) := by decide +kernel
theorem d_Re_takeRest_128 : decode m_Re_takeRest.2.1 128 = .ok (.goto 4, 3) := by decide +kernel
theorem d_Re_takeRest_240 : decode m_Re_takeRest.2.1 240 = .ok (.aload_n 0, 1) := by decide +kernel
theorem d_Re_takeRest_241 : decode m_Re_takeRest.2.1 241 = .ok (.getfield 12, 3) := by decide +kernel
theorem d_Re_takeRest_244 : decode m_Re_takeRest.2.1 244 = .ok (.iconst 2, 1) := by decide +kernel
theorem d_Re_takeRest_245 : decode m_Re_takeRest.2.1 245 = .ok (.invokevirtual 82, 3) := by decide +kernel
theorem d_Re_takeRest_248 : decode m_Re_takeRest.2.1 248 = .ok (.ireturn, 1) := by decide +kernel
theorem d_Re_takeRest_142 : decode m_Re_takeRest.2.1 142 = .ok (.aload_n 0, 1) := by decide +kernel
theorem d_Re_takeRest_143 : decode m_Re_takeRest.2.1 143 = .ok (.iload_n 1, 1) := by decide +kernel
theorem d_Re_takeRest_144 : decode m_Re_takeRest.2.1 144 = .ok (.invokevirtual 182, 3) := by decide +kernel
theorem d_Re_takeRest_147 : decode m_Re_takeRest.2.1 147 = .ok (.ireturn, 1) := by decide +kernel
theorem d_Re_takeRest_148 : decode m_Re_takeRest.2.1 148 = .ok (.aload_n 0, 1) := by decide +kernel
theorem d_Re_takeRest_149 : decode m_Re_takeRest.2.1 149 = .ok (.iload_n 1, 1) := by decide +kernel
theorem d_Re_takeRest_150 : decode m_Re_takeRest.2.1 150 = .ok (.invokevirtual 182, 3) := by decide +kernel
theorem d_Re_takeRest_153 : decode m_Re_takeRest.2.1 153 = .ok (.ifCond .eq 25, 3) := by decide +kernel
theorem d_Re_takeRest_178 : decode m_Re_takeRest.2.1 178 = .ok (.iconst 0, 1) := by decide +kernel
theorem d_Re_takeRest_179 : decode m_Re_takeRest.2.1 179 = .ok (.ireturn, 1) := by decide +kernel
theorem d_Re_takeRest_156 : decode m_Re_takeRest.2.1 156 = .ok (.aload_n 0, 1) := by decide +kernel
theorem d_Re_takeRest_157 : decode m_Re_takeRest.2.1 157 = .ok (.iload_n 1, 1) := by decide +kernel
theorem d_Re_takeRest_158 : decode m_Re_takeRest.2.1 158 = .ok (.iconst 0, 1) := by decide +kernel
theorem d_Re_takeRest_159 : decode m_Re_takeRest.2.1 159 = .ok (.aload_n 0, 1) := by decide +kernel
theorem d_Re_takeRest_160 : decode m_Re_takeRest.2.1 160 = .ok (.getfield 22, 3) := by decide +kernel
theorem d_Re_takeRest_163 : decode m_Re_takeRest.2.1 163 = .ok (.getfield 122, 3) := by decide +kernel
theorem d_Re_takeRest_166 : decode m_Re_takeRest.2.1 166 = .ok (.iconst 1, 1) := by decide +kernel
theorem d_Re_takeRest_167 : decode m_Re_takeRest.2.1 167 = .ok (.isub, 1) := by decide +kernel
theorem d_Re_takeRest_168 : decode m_Re_takeRest.2.1 168 = .ok (.invokevirtual 185, 3) := by decide +kernel
theorem d_Re_takeRest_171 : decode m_Re_takeRest.2.1 171 = .ok (.ifCond .eq 7, 3) := by decide +kernel
theorem d_Re_takeRest_174 : decode m_Re_takeRest.2.1 174 = .ok (.iconst 1, 1) := by decide +kernel
theorem d_Re_takeRest_175 : decode m_Re_takeRest.2.1 175 = .ok (.goto 4, 3) := by decide +kernel
theorem d_Re_takeRest_180 : decode m_Re_takeRest.2.1 180 = .ok (.aload_n 0, 1) := by decide +kernel
theorem d_Re_takeRest_181 : decode m_Re_takeRest.2.1 181 = .ok (.iload_n 1, 1) := by decide +kernel
theorem d_Re_takeRest_182 : decode m_Re_takeRest.2.1 182 = .ok (.iconst 0, 1) := by decide +kernel
theorem d_Re_takeRest_183 : decode m_Re_takeRest.2.1 183 = .ok (.aload_n 0, 1) := by decide +kernel
theorem d_Re_takeRest_184 : decode m_Re_takeRest.2.1 184 = .ok (.getfield 22, 3) := by decide +kernel
theorem d_Re_takeRest_187 : decode m_Re_takeRest.2.1 187 = .ok (.invokevirtual 143, 3) := by decide +kernel
theorem d_Re_takeRest_190 : decode m_Re_takeRest.2.1 190 = .ok (.iconst 1, 1) := by decide +kernel
theorem d_Re_takeRest_191 : decode m_Re_takeRest.2.1 191 = .ok (.isub, 1) := by decide +kernel
theorem d_Re_takeRest_192 : decode m_Re_takeRest.2.1 192 = .ok (.invokevirtual 175, 3) := by decide +kernel
theorem d_Re_takeRest_195 : decode m_Re_takeRest.2.1 195 = .ok (.ifCond .eq 18, 3) := by decide +kernel
theorem d_Re_takeRest_213 : decode m_Re_takeRest.2.1 213 = .ok (.iconst 0, 1) := by decide +kernel
theorem d_Re_takeRest_214 : decode m_Re_takeRest.2.1 214 = .ok (.ireturn, 1) := by decide +kernel
theorem d_Re_takeRest_198 : decode m_Re_takeRest.2.1 198 = .ok (.aload_n 0, 1) := by decide +kernel
theorem d_Re_takeRest_199 : decode m_Re_takeRest.2.1 199 = .ok (.iload_n 1, 1) := by decide +kernel
theorem d_Re_takeRest_200 : decode m_Re_takeRest.2.1 200 = .ok (.iconst 0, 1) := by decide +kernel
theorem d_Re_takeRest_201 : decode m_Re_takeRest.2.1 201 = .ok (.bipush 6, 2) := by decide +kernel
theorem d_Re_takeRest_203 : decode m_Re_takeRest.2.1 203 = .ok (.invokevirtual 185, 3) := by decide +kernel
theorem d_Re_takeRest_206 : decode m_Re_takeRest.2.1 206 = .ok (.ifCond .eq 7, 3) := by decide +kernel
theorem d_Re_takeRest_209 : decode m_Re_takeRest.2.1 209 = .ok (.iconst 1, 1) := by decide +kernel
theorem d_Re_takeRest_210 : decode m_Re_takeRest.2.1 210 = .ok (.goto 4, 3) := by decide +kernel
theorem d_Re_takeRest_215 : decode m_Re_takeRest.2.1 215 = .ok (.aload_n 0, 1) := by decide +kernel
theorem d_Re_takeRest_216 : decode m_Re_takeRest.2.1 216 = .ok (.iload_n 1, 1) := by decide +kernel
theorem d_Re_takeRest_217 : decode m_Re_takeRest.2.1 217 = .ok (.invokevirtual 188, 3) := by decide +kernel
abbrev m_Re_takeCompares : aw_MI := (⟨"MaypoleGreen$Reader", "takeCompares", "(I)Z"⟩, prog_10_method_20_code, 2, some .boolean)
theorem lk_Re_188 : Cond.methodLink "MaypoleGreen$Reader" 188 m_Re_takeCompares.1 ∈ aw_T := aw_in 774 (by decide +kernel) rfl
theorem k_Re_takeCompares : aw_K m_Re_takeCompares 1 := ⟨aw_in 777 (by decide +kernel) rfl, aw_in 6 (by decide +kernel) rfl, ⟨by decide, by decide, by decide +kernel⟩, by decide, by decide +kernel⟩
theorem in_Re_takeCompares : Cond.instanceMethod m_Re_takeCompares.1 ∈ aw_T := aw_in 776 (by decide +kernel) rfl
theorem se_Re_takeCompares : Cond.selects m_Re_takeCompares.1.cls m_Re_takeCompares.1 m_Re_takeCompares.1 ∈ aw_T := aw_inP 28 (by decide +kernel) rfl
theorem d_Re_takeRest_220 : decode m_Re_takeRest.2.1 220 = .ok (.ifCond .eq 18, 3) := by decide +kernel
theorem d_Re_takeRest_238 : decode m_Re_takeRest.2.1 238 = .ok (.iconst 0, 1) := by decide +kernel
theorem d_Re_takeRest_239 : decode m_Re_takeRest.2.1 239 = .ok (.ireturn, 1) := by decide +kernel
theorem d_Re_takeRest_223 : decode m_Re_takeRest.2.1 223 = .ok (.aload_n 0, 1) := by decide +kernel
theorem d_Re_takeRest_224 : decode m_Re_takeRest.2.1 224 = .ok (.iload_n 1, 1) := by decide +kernel
theorem d_Re_takeRest_225 : decode m_Re_takeRest.2.1 225 = .ok (.iconst 0, 1) := by decide +kernel
theorem d_Re_takeRest_226 : decode m_Re_takeRest.2.1 226 = .ok (.bipush 40, 2) := by decide +kernel
theorem d_Re_takeRest_228 : decode m_Re_takeRest.2.1 228 = .ok (.invokevirtual 185, 3) := by decide +kernel
theorem d_Re_takeRest_231 : decode m_Re_takeRest.2.1 231 = .ok (.ifCond .eq 7, 3) := by decide +kernel
theorem d_Re_takeRest_234 : decode m_Re_takeRest.2.1 234 = .ok (.iconst 1, 1) := by decide +kernel
theorem d_Re_takeRest_235 : decode m_Re_takeRest.2.1 235 = .ok (.goto 4, 3) := by decide +kernel
theorem d_Re_takeRest_133 : decode m_Re_takeRest.2.1 133 = .ok (.aload_n 0, 1) := by decide +kernel
theorem d_Re_takeRest_134 : decode m_Re_takeRest.2.1 134 = .ok (.iload_n 1, 1) := by decide +kernel
theorem d_Re_takeRest_135 : decode m_Re_takeRest.2.1 135 = .ok (.iconst 1, 1) := by decide +kernel
theorem d_Re_takeRest_136 : decode m_Re_takeRest.2.1 136 = .ok (.bipush 99, 2) := by decide +kernel
theorem d_Re_takeRest_138 : decode m_Re_takeRest.2.1 138 = .ok (.invokevirtual 175, 3) := by decide +kernel
theorem d_Re_takeRest_141 : decode m_Re_takeRest.2.1 141 = .ok (.ireturn, 1) := by decide +kernel
theorem d_Re_takeFirst_0 : decode m_Re_takeFirst.2.1 0 = .ok (.aload_n 0, 1) := by decide +kernel
theorem d_Re_takeFirst_1 : decode m_Re_takeFirst.2.1 1 = .ok (.getfield 12, 3) := by decide +kernel
theorem d_Re_takeFirst_4 : decode m_Re_takeFirst.2.1 4 = .ok (.iload_n 2, 1) := by decide +kernel
theorem d_Re_takeFirst_5 : decode m_Re_takeFirst.2.1 5 = .ok (.iload_n 3, 1) := by decide +kernel
theorem d_Re_takeFirst_6 : decode m_Re_takeFirst.2.1 6 = .ok (.invokevirtual 109, 3) := by decide +kernel
theorem d_Re_takeFirst_9 : decode m_Re_takeFirst.2.1 9 = .ok (.istore 4, 2) := by decide +kernel
theorem d_Re_takeFirst_11 : decode m_Re_takeFirst.2.1 11 = .ok (.aload_n 0, 1) := by decide +kernel
theorem d_Re_takeFirst_12 : decode m_Re_takeFirst.2.1 12 = .ok (.getfield 59, 3) := by decide +kernel
theorem d_Re_takeFirst_15 : decode m_Re_takeFirst.2.1 15 = .ok (.getfield 191, 3) := by decide +kernel
theorem f_Re_191 : aw_F "MaypoleGreen$Reader" 191 4 4 true := ⟨cR4, cT4, 7, fun k => cY4.getD k .int, rfl, ci4, cy4, cn4, rfl, by decide, aw_in 101 (by decide +kernel) rfl, rfl, rfl, rfl⟩
theorem d_Re_takeFirst_18 : decode m_Re_takeFirst.2.1 18 = .ok (.iload_n 1, 1) := by decide +kernel
theorem d_Re_takeFirst_19 : decode m_Re_takeFirst.2.1 19 = .ok (.iload 4, 2) := by decide +kernel
theorem d_Re_takeFirst_21 : decode m_Re_takeFirst.2.1 21 = .ok (.iastore, 1) := by decide +kernel
theorem d_Re_takeFirst_22 : decode m_Re_takeFirst.2.1 22 = .ok (.iload 4, 2) := by decide +kernel
theorem d_Re_takeFirst_24 : decode m_Re_takeFirst.2.1 24 = .ok (.iconst (-1), 1) := by decide +kernel
theorem d_Re_takeFirst_25 : decode m_Re_takeFirst.2.1 25 = .ok (.if_icmp .eq 7, 3) := by decide +kernel
theorem d_Re_takeFirst_32 : decode m_Re_takeFirst.2.1 32 = .ok (.iconst 0, 1) := by decide +kernel
theorem d_Re_takeFirst_33 : decode m_Re_takeFirst.2.1 33 = .ok (.ireturn, 1) := by decide +kernel
theorem d_Re_takeFirst_28 : decode m_Re_takeFirst.2.1 28 = .ok (.iconst 1, 1) := by decide +kernel
theorem d_Re_takeFirst_29 : decode m_Re_takeFirst.2.1 29 = .ok (.goto 4, 3) := by decide +kernel
theorem d_Re_takeHow_0 : decode m_Re_takeHow.2.1 0 = .ok (.aload_n 0, 1) := by decide +kernel
theorem d_Re_takeHow_1 : decode m_Re_takeHow.2.1 1 = .ok (.invokevirtual 146, 3) := by decide +kernel
theorem d_Re_takeHow_4 : decode m_Re_takeHow.2.1 4 = .ok (.istore_n 2, 1) := by decide +kernel
theorem d_Re_takeHow_5 : decode m_Re_takeHow.2.1 5 = .ok (.iload_n 2, 1) := by decide +kernel
theorem d_Re_takeHow_6 : decode m_Re_takeHow.2.1 6 = .ok (.iconst (-1), 1) := by decide +kernel
theorem d_Re_takeHow_7 : decode m_Re_takeHow.2.1 7 = .ok (.if_icmp .ne 12, 3) := by decide +kernel
theorem d_Re_takeHow_19 : decode m_Re_takeHow.2.1 19 = .ok (.aload_n 0, 1) := by decide +kernel
theorem d_Re_takeHow_20 : decode m_Re_takeHow.2.1 20 = .ok (.getfield 59, 3) := by decide +kernel
theorem d_Re_takeHow_23 : decode m_Re_takeHow.2.1 23 = .ok (.getfield 194, 3) := by decide +kernel
theorem f_Re_194 : aw_F "MaypoleGreen$Reader" 194 4 5 true := ⟨cR4, cT4, 7, fun k => cY4.getD k .int, rfl, ci4, cy4, cn4, rfl, by decide, aw_in 104 (by decide +kernel) rfl, rfl, rfl, rfl⟩
theorem d_Re_takeHow_26 : decode m_Re_takeHow.2.1 26 = .ok (.iload_n 1, 1) := by decide +kernel
theorem d_Re_takeHow_27 : decode m_Re_takeHow.2.1 27 = .ok (.iload_n 2, 1) := by decide +kernel
theorem d_Re_takeHow_28 : decode m_Re_takeHow.2.1 28 = .ok (.iastore, 1) := by decide +kernel
theorem d_Re_takeHow_29 : decode m_Re_takeHow.2.1 29 = .ok (.aload_n 0, 1) := by decide +kernel
theorem d_Re_takeHow_30 : decode m_Re_takeHow.2.1 30 = .ok (.getfield 12, 3) := by decide +kernel
theorem d_Re_takeHow_33 : decode m_Re_takeHow.2.1 33 = .ok (.invokevirtual 106, 3) := by decide +kernel
theorem d_Re_takeHow_36 : decode m_Re_takeHow.2.1 36 = .ok (.iconst 1, 1) := by decide +kernel
theorem d_Re_takeHow_37 : decode m_Re_takeHow.2.1 37 = .ok (.ireturn, 1) := by decide +kernel
theorem d_Re_takeHow_10 : decode m_Re_takeHow.2.1 10 = .ok (.aload_n 0, 1) := by decide +kernel
theorem d_Re_takeHow_11 : decode m_Re_takeHow.2.1 11 = .ok (.getfield 12, 3) := by decide +kernel
theorem d_Re_takeHow_14 : decode m_Re_takeHow.2.1 14 = .ok (.iconst 2, 1) := by decide +kernel
theorem d_Re_takeHow_15 : decode m_Re_takeHow.2.1 15 = .ok (.invokevirtual 82, 3) := by decide +kernel
theorem d_Re_takeHow_18 : decode m_Re_takeHow.2.1 18 = .ok (.ireturn, 1) := by decide +kernel
theorem d_Re_takeKnown_0 : decode m_Re_takeKnown.2.1 0 = .ok (.aload_n 0, 1) := by decide +kernel
theorem d_Re_takeKnown_1 : decode m_Re_takeKnown.2.1 1 = .ok (.getfield 12, 3) := by decide +kernel
theorem d_Re_takeKnown_4 : decode m_Re_takeKnown.2.1 4 = .ok (.invokevirtual 125, 3) := by decide +kernel
theorem d_Re_takeKnown_7 : decode m_Re_takeKnown.2.1 7 = .ok (.ifCond .ne 12, 3) := by decide +kernel
theorem d_Re_takeKnown_19 : decode m_Re_takeKnown.2.1 19 = .ok (.aload_n 0, 1) := by decide +kernel
theorem d_Re_takeKnown_20 : decode m_Re_takeKnown.2.1 20 = .ok (.getfield 22, 3) := by decide +kernel
theorem d_Re_takeKnown_23 : decode m_Re_takeKnown.2.1 23 = .ok (.aload_n 0, 1) := by decide +kernel
theorem d_Re_takeKnown_24 : decode m_Re_takeKnown.2.1 24 = .ok (.getfield 12, 3) := by decide +kernel
theorem d_Re_takeKnown_27 : decode m_Re_takeKnown.2.1 27 = .ok (.getfield 128, 3) := by decide +kernel
theorem d_Re_takeKnown_30 : decode m_Re_takeKnown.2.1 30 = .ok (.invokevirtual 132, 3) := by decide +kernel
theorem d_Re_takeKnown_33 : decode m_Re_takeKnown.2.1 33 = .ok (.istore_n 2, 1) := by decide +kernel
theorem d_Re_takeKnown_34 : decode m_Re_takeKnown.2.1 34 = .ok (.iload_n 2, 1) := by decide +kernel
theorem d_Re_takeKnown_35 : decode m_Re_takeKnown.2.1 35 = .ok (.iconst (-1), 1) := by decide +kernel
theorem d_Re_takeKnown_36 : decode m_Re_takeKnown.2.1 36 = .ok (.if_icmp .ne 12, 3) := by decide +kernel
theorem d_Re_takeKnown_48 : decode m_Re_takeKnown.2.1 48 = .ok (.aload_n 0, 1) := by decide +kernel
theorem d_Re_takeKnown_49 : decode m_Re_takeKnown.2.1 49 = .ok (.getfield 59, 3) := by decide +kernel
theorem d_Re_takeKnown_52 : decode m_Re_takeKnown.2.1 52 = .ok (.getfield 191, 3) := by decide +kernel
theorem d_Re_takeKnown_55 : decode m_Re_takeKnown.2.1 55 = .ok (.iload_n 1, 1) := by decide +kernel
theorem d_Re_takeKnown_56 : decode m_Re_takeKnown.2.1 56 = .ok (.iload_n 2, 1) := by decide +kernel
theorem d_Re_takeKnown_57 : decode m_Re_takeKnown.2.1 57 = .ok (.iastore, 1) := by decide +kernel
theorem d_Re_takeKnown_58 : decode m_Re_takeKnown.2.1 58 = .ok (.aload_n 0, 1) := by decide +kernel
theorem d_Re_takeKnown_59 : decode m_Re_takeKnown.2.1 59 = .ok (.getfield 12, 3) := by decide +kernel
theorem d_Re_takeKnown_62 : decode m_Re_takeKnown.2.1 62 = .ok (.invokevirtual 106, 3) := by decide +kernel
theorem d_Re_takeKnown_65 : decode m_Re_takeKnown.2.1 65 = .ok (.iconst 1, 1) := by decide +kernel
theorem d_Re_takeKnown_66 : decode m_Re_takeKnown.2.1 66 = .ok (.ireturn, 1) := by decide +kernel
theorem d_Re_takeKnown_39 : decode m_Re_takeKnown.2.1 39 = .ok (.aload_n 0, 1) := by decide +kernel
theorem d_Re_takeKnown_40 : decode m_Re_takeKnown.2.1 40 = .ok (.getfield 12, 3) := by decide +kernel
theorem d_Re_takeKnown_43 : decode m_Re_takeKnown.2.1 43 = .ok (.iconst 3, 1) := by decide +kernel
theorem d_Re_takeKnown_44 : decode m_Re_takeKnown.2.1 44 = .ok (.invokevirtual 82, 3) := by decide +kernel
theorem d_Re_takeKnown_47 : decode m_Re_takeKnown.2.1 47 = .ok (.ireturn, 1) := by decide +kernel
theorem d_Re_takeKnown_10 : decode m_Re_takeKnown.2.1 10 = .ok (.aload_n 0, 1) := by decide +kernel
theorem d_Re_takeKnown_11 : decode m_Re_takeKnown.2.1 11 = .ok (.getfield 12, 3) := by decide +kernel
theorem d_Re_takeKnown_14 : decode m_Re_takeKnown.2.1 14 = .ok (.iconst 2, 1) := by decide +kernel
theorem d_Re_takeKnown_15 : decode m_Re_takeKnown.2.1 15 = .ok (.invokevirtual 82, 3) := by decide +kernel
theorem d_Re_takeKnown_18 : decode m_Re_takeKnown.2.1 18 = .ok (.ireturn, 1) := by decide +kernel
theorem d_Re_takeSecond_0 : decode m_Re_takeSecond.2.1 0 = .ok (.aload_n 0, 1) := by decide +kernel
theorem d_Re_takeSecond_1 : decode m_Re_takeSecond.2.1 1 = .ok (.getfield 12, 3) := by decide +kernel
theorem d_Re_takeSecond_4 : decode m_Re_takeSecond.2.1 4 = .ok (.iload_n 2, 1) := by decide +kernel
theorem d_Re_takeSecond_5 : decode m_Re_takeSecond.2.1 5 = .ok (.iload_n 3, 1) := by decide +kernel
theorem d_Re_takeSecond_6 : decode m_Re_takeSecond.2.1 6 = .ok (.invokevirtual 109, 3) := by decide +kernel
theorem d_Re_takeSecond_9 : decode m_Re_takeSecond.2.1 9 = .ok (.istore 4, 2) := by decide +kernel
theorem d_Re_takeSecond_11 : decode m_Re_takeSecond.2.1 11 = .ok (.aload_n 0, 1) := by decide +kernel
theorem d_Re_takeSecond_12 : decode m_Re_takeSecond.2.1 12 = .ok (.getfield 59, 3) := by decide +kernel
theorem d_Re_takeSecond_15 : decode m_Re_takeSecond.2.1 15 = .ok (.getfield 194, 3) := by decide +kernel
theorem d_Re_takeSecond_18 : decode m_Re_takeSecond.2.1 18 = .ok (.iload_n 1, 1) := by decide +kernel
theorem d_Re_takeSecond_19 : decode m_Re_takeSecond.2.1 19 = .ok (.iload 4, 2) := by decide +kernel
theorem d_Re_takeSecond_21 : decode m_Re_takeSecond.2.1 21 = .ok (.iastore, 1) := by decide +kernel
theorem d_Re_takeSecond_22 : decode m_Re_takeSecond.2.1 22 = .ok (.iload 4, 2) := by decide +kernel
theorem d_Re_takeSecond_24 : decode m_Re_takeSecond.2.1 24 = .ok (.iconst (-1), 1) := by decide +kernel
theorem d_Re_takeSecond_25 : decode m_Re_takeSecond.2.1 25 = .ok (.if_icmp .eq 7, 3) := by decide +kernel
theorem d_Re_takeSecond_32 : decode m_Re_takeSecond.2.1 32 = .ok (.iconst 0, 1) := by decide +kernel
theorem d_Re_takeSecond_33 : decode m_Re_takeSecond.2.1 33 = .ok (.ireturn, 1) := by decide +kernel
theorem d_Re_takeSecond_28 : decode m_Re_takeSecond.2.1 28 = .ok (.iconst 1, 1) := by decide +kernel
theorem d_Re_takeSecond_29 : decode m_Re_takeSecond.2.1 29 = .ok (.goto 4, 3) := by decide +kernel
theorem d_Re_takeCompares_0 : decode m_Re_takeCompares.2.1 0 = .ok (.aload_n 0, 1) := by decide +kernel
theorem d_Re_takeCompares_1 : decode m_Re_takeCompares.2.1 1 = .ok (.getfield 12, 3) := by decide +kernel
theorem d_Re_takeCompares_4 : decode m_Re_takeCompares.2.1 4 = .ok (.getfield 45, 3) := by decide +kernel
theorem d_Re_takeCompares_7 : decode m_Re_takeCompares.2.1 7 = .ok (.iconst 3, 1) := by decide +kernel
theorem d_Re_takeCompares_8 : decode m_Re_takeCompares.2.1 8 = .ok (.if_icmp .ne 15, 3) := by decide +kernel
theorem d_Re_takeCompares_23 : decode m_Re_takeCompares.2.1 23 = .ok (.aload_n 0, 1) := by decide +kernel
theorem d_Re_takeCompares_24 : decode m_Re_takeCompares.2.1 24 = .ok (.getfield 12, 3) := by decide +kernel
theorem d_Re_takeCompares_27 : decode m_Re_takeCompares.2.1 27 = .ok (.iconst 2, 1) := by decide +kernel
theorem d_Re_takeCompares_28 : decode m_Re_takeCompares.2.1 28 = .ok (.invokevirtual 82, 3) := by decide +kernel
theorem d_Re_takeCompares_31 : decode m_Re_takeCompares.2.1 31 = .ok (.ireturn, 1) := by decide +kernel
theorem d_Re_takeCompares_11 : decode m_Re_takeCompares.2.1 11 = .ok (.aload_n 0, 1) := by decide +kernel
theorem d_Re_takeCompares_12 : decode m_Re_takeCompares.2.1 12 = .ok (.getfield 12, 3) := by decide +kernel
theorem d_Re_takeCompares_15 : decode m_Re_takeCompares.2.1 15 = .ok (.getfield 197, 3) := by decide +kernel
theorem f_Re_197 : aw_F "MaypoleGreen$Reader" 197 6 5 false := ⟨cR6, cT6, 11, fun k => cY6.getD k .int, rfl, ci6, cy6, cn6, rfl, by decide, aw_in 258 (by decide +kernel) rfl, rfl, rfl, rfl⟩
theorem d_Re_takeCompares_18 : decode m_Re_takeCompares.2.1 18 = .ok (.bipush 59, 2) := by decide +kernel
theorem d_Re_takeCompares_20 : decode m_Re_takeCompares.2.1 20 = .ok (.if_icmp .ne 12, 3) := by decide +kernel
theorem d_Re_takeCompares_32 : decode m_Re_takeCompares.2.1 32 = .ok (.aload_n 0, 1) := by decide +kernel
theorem d_Re_takeCompares_33 : decode m_Re_takeCompares.2.1 33 = .ok (.getfield 59, 3) := by decide +kernel
theorem d_Re_takeCompares_36 : decode m_Re_takeCompares.2.1 36 = .ok (.getfield 191, 3) := by decide +kernel
theorem d_Re_takeCompares_39 : decode m_Re_takeCompares.2.1 39 = .ok (.iload_n 1, 1) := by decide +kernel
theorem d_Re_takeCompares_40 : decode m_Re_takeCompares.2.1 40 = .ok (.aload_n 0, 1) := by decide +kernel
theorem d_Re_takeCompares_41 : decode m_Re_takeCompares.2.1 41 = .ok (.getfield 12, 3) := by decide +kernel
theorem d_Re_takeCompares_44 : decode m_Re_takeCompares.2.1 44 = .ok (.getfield 197, 3) := by decide +kernel
theorem d_Re_takeCompares_47 : decode m_Re_takeCompares.2.1 47 = .ok (.iastore, 1) := by decide +kernel
theorem d_Re_takeCompares_48 : decode m_Re_takeCompares.2.1 48 = .ok (.aload_n 0, 1) := by decide +kernel
theorem d_Re_takeCompares_49 : decode m_Re_takeCompares.2.1 49 = .ok (.getfield 12, 3) := by decide +kernel
theorem d_Re_takeCompares_52 : decode m_Re_takeCompares.2.1 52 = .ok (.invokevirtual 106, 3) := by decide +kernel
theorem d_Re_takeCompares_55 : decode m_Re_takeCompares.2.1 55 = .ok (.iconst 1, 1) := by decide +kernel
theorem d_Re_takeCompares_56 : decode m_Re_takeCompares.2.1 56 = .ok (.ireturn, 1) := by decide +kernel
