abbrev m_Tr_init : aw_MI := (⟨"MaypoleGreen$Tray", "<init>", "()V"⟩, prog_12_method_1_code, 1, none)
theorem d_Tr_init_0 : decode m_Tr_init.2.1 0 = .ok (.aload_n 0, 1) := by decide +kernel
theorem d_Tr_init_1 : decode m_Tr_init.2.1 1 = .ok (.invokespecial 3, 3) := by decide +kernel
theorem lo_Tr_3 : Cond.methodLink "MaypoleGreen$Tray" 3 Lib.objectInit ∈ aw_T := aw_in 36 (by decide +kernel) rfl
theorem d_Tr_init_4 : decode m_Tr_init.2.1 4 = .ok (.aload_n 0, 1) := by decide +kernel
theorem d_Tr_init_5 : decode m_Tr_init.2.1 5 = .ok (.bipush 60, 2) := by decide +kernel
theorem d_Tr_init_7 : decode m_Tr_init.2.1 7 = .ok (.newarray .long, 2) := by decide +kernel
theorem d_Tr_init_9 : decode m_Tr_init.2.1 9 = .ok (.putfield 9, 3) := by decide +kernel
theorem d_Tr_init_12 : decode m_Tr_init.2.1 12 = .ok (.return_, 1) := by decide +kernel
theorem k_Tr_init : aw_K m_Tr_init 0 := ⟨aw_in 35 (by decide +kernel) rfl, aw_in 2 (by decide +kernel) rfl, ⟨by decide, by decide, by decide +kernel⟩, by decide, by decide +kernel⟩
abbrev m_Pl_init : aw_MI := (⟨"MaypoleGreen$Plait", "<init>", "(I)V"⟩, prog_8_method_1_code, 2, none)
theorem d_Pl_init_0 : decode m_Pl_init.2.1 0 = .ok (.aload_n 0, 1) := by decide +kernel
theorem d_Pl_init_1 : decode m_Pl_init.2.1 1 = .ok (.invokespecial 3, 3) := by decide +kernel
theorem lo_Pl_3 : Cond.methodLink "MaypoleGreen$Plait" 3 Lib.objectInit ∈ aw_T := aw_in 67 (by decide +kernel) rfl
theorem d_Pl_init_4 : decode m_Pl_init.2.1 4 = .ok (.aload_n 0, 1) := by decide +kernel
theorem d_Pl_init_5 : decode m_Pl_init.2.1 5 = .ok (.iload_n 1, 1) := by decide +kernel
theorem d_Pl_init_6 : decode m_Pl_init.2.1 6 = .ok (.newarray .int, 2) := by decide +kernel
theorem d_Pl_init_8 : decode m_Pl_init.2.1 8 = .ok (.putfield 9, 3) := by decide +kernel
theorem d_Pl_init_11 : decode m_Pl_init.2.1 11 = .ok (.return_, 1) := by decide +kernel
theorem k_Pl_init : aw_K m_Pl_init 1 := ⟨aw_in 66 (by decide +kernel) rfl, aw_in 4 (by decide +kernel) rfl, ⟨by decide, by decide, by decide +kernel⟩, by decide, by decide +kernel⟩
abbrev m_Fe_init : aw_MI := (⟨"MaypoleGreen$Feasts", "<init>", "()V"⟩, prog_3_method_1_code, 1, none)
theorem d_Fe_init_0 : decode m_Fe_init.2.1 0 = .ok (.aload_n 0, 1) := by decide +kernel
theorem d_Fe_init_1 : decode m_Fe_init.2.1 1 = .ok (.invokespecial 3, 3) := by decide +kernel
theorem lo_Fe_3 : Cond.methodLink "MaypoleGreen$Feasts" 3 Lib.objectInit ∈ aw_T := aw_in 86 (by decide +kernel) rfl
theorem d_Fe_init_4 : decode m_Fe_init.2.1 4 = .ok (.aload_n 0, 1) := by decide +kernel
theorem d_Fe_init_5 : decode m_Fe_init.2.1 5 = .ok (.bipush 30, 2) := by decide +kernel
theorem d_Fe_init_7 : decode m_Fe_init.2.1 7 = .ok (.newarray .int, 2) := by decide +kernel
theorem d_Fe_init_9 : decode m_Fe_init.2.1 9 = .ok (.putfield 9, 3) := by decide +kernel
theorem d_Fe_init_12 : decode m_Fe_init.2.1 12 = .ok (.aload_n 0, 1) := by decide +kernel
theorem d_Fe_init_13 : decode m_Fe_init.2.1 13 = .ok (.bipush 30, 2) := by decide +kernel
theorem d_Fe_init_15 : decode m_Fe_init.2.1 15 = .ok (.newarray .int, 2) := by decide +kernel
theorem d_Fe_init_17 : decode m_Fe_init.2.1 17 = .ok (.putfield 15, 3) := by decide +kernel
theorem d_Fe_init_20 : decode m_Fe_init.2.1 20 = .ok (.aload_n 0, 1) := by decide +kernel
theorem d_Fe_init_21 : decode m_Fe_init.2.1 21 = .ok (.bipush 30, 2) := by decide +kernel
theorem d_Fe_init_23 : decode m_Fe_init.2.1 23 = .ok (.newarray .int, 2) := by decide +kernel
theorem d_Fe_init_25 : decode m_Fe_init.2.1 25 = .ok (.putfield 18, 3) := by decide +kernel
theorem d_Fe_init_28 : decode m_Fe_init.2.1 28 = .ok (.aload_n 0, 1) := by decide +kernel
theorem d_Fe_init_29 : decode m_Fe_init.2.1 29 = .ok (.bipush 30, 2) := by decide +kernel
theorem d_Fe_init_31 : decode m_Fe_init.2.1 31 = .ok (.newarray .int, 2) := by decide +kernel
theorem d_Fe_init_33 : decode m_Fe_init.2.1 33 = .ok (.putfield 21, 3) := by decide +kernel
theorem d_Fe_init_36 : decode m_Fe_init.2.1 36 = .ok (.aload_n 0, 1) := by decide +kernel
theorem d_Fe_init_37 : decode m_Fe_init.2.1 37 = .ok (.bipush 30, 2) := by decide +kernel
theorem d_Fe_init_39 : decode m_Fe_init.2.1 39 = .ok (.newarray .int, 2) := by decide +kernel
theorem d_Fe_init_41 : decode m_Fe_init.2.1 41 = .ok (.putfield 24, 3) := by decide +kernel
theorem d_Fe_init_44 : decode m_Fe_init.2.1 44 = .ok (.return_, 1) := by decide +kernel
theorem k_Fe_init : aw_K m_Fe_init 0 := ⟨aw_in 85 (by decide +kernel) rfl, aw_in 5 (by decide +kernel) rfl, ⟨by decide, by decide, by decide +kernel⟩, by decide, by decide +kernel⟩
abbrev m_Li_init : aw_MI := (⟨"MaypoleGreen$Life", "<init>", "()V"⟩, prog_6_method_1_code, 1, none)
theorem d_Li_init_0 : decode m_Li_init.2.1 0 = .ok (.aload_n 0, 1) := by decide +kernel
theorem d_Li_init_1 : decode m_Li_init.2.1 1 = .ok (.invokespecial 3, 3) := by decide +kernel
theorem lo_Li_3 : Cond.methodLink "MaypoleGreen$Life" 3 Lib.objectInit ∈ aw_T := aw_in 325 (by decide +kernel) rfl
theorem d_Li_init_4 : decode m_Li_init.2.1 4 = .ok (.return_, 1) := by decide +kernel
theorem k_Li_init : aw_K m_Li_init 0 := ⟨aw_in 324 (by decide +kernel) rfl, aw_in 12 (by decide +kernel) rfl, ⟨by decide, by decide, by decide +kernel⟩, by decide, by decide +kernel⟩
abbrev m_Ho_init : aw_MI := (⟨"MaypoleGreen$Homing", "<init>", "()V"⟩, prog_5_method_1_code, 1, none)
theorem d_Ho_init_0 : decode m_Ho_init.2.1 0 = .ok (.aload_n 0, 1) := by decide +kernel
theorem d_Ho_init_1 : decode m_Ho_init.2.1 1 = .ok (.invokespecial 3, 3) := by decide +kernel
theorem lo_Ho_3 : Cond.methodLink "MaypoleGreen$Homing" 3 Lib.objectInit ∈ aw_T := aw_in 356 (by decide +kernel) rfl
theorem d_Ho_init_4 : decode m_Ho_init.2.1 4 = .ok (.aload_n 0, 1) := by decide +kernel
theorem d_Ho_init_5 : decode m_Ho_init.2.1 5 = .ok (.bipush 7, 2) := by decide +kernel
theorem d_Ho_init_7 : decode m_Ho_init.2.1 7 = .ok (.newarray .int, 2) := by decide +kernel
theorem d_Ho_init_9 : decode m_Ho_init.2.1 9 = .ok (.putfield 9, 3) := by decide +kernel
theorem d_Ho_init_12 : decode m_Ho_init.2.1 12 = .ok (.aload_n 0, 1) := by decide +kernel
theorem d_Ho_init_13 : decode m_Ho_init.2.1 13 = .ok (.bipush 7, 2) := by decide +kernel
theorem d_Ho_init_15 : decode m_Ho_init.2.1 15 = .ok (.newarray .int, 2) := by decide +kernel
theorem d_Ho_init_17 : decode m_Ho_init.2.1 17 = .ok (.putfield 15, 3) := by decide +kernel
theorem d_Ho_init_20 : decode m_Ho_init.2.1 20 = .ok (.return_, 1) := by decide +kernel
theorem k_Ho_init : aw_K m_Ho_init 0 := ⟨aw_in 355 (by decide +kernel) rfl, aw_in 13 (by decide +kernel) rfl, ⟨by decide, by decide, by decide +kernel⟩, by decide, by decide +kernel⟩
abbrev m_Ou_init : aw_MI := (⟨"MaypoleGreen$Outlook", "<init>", "()V"⟩, prog_7_method_1_code, 1, none)
theorem d_Ou_init_0 : decode m_Ou_init.2.1 0 = .ok (.aload_n 0, 1) := by decide +kernel
theorem d_Ou_init_1 : decode m_Ou_init.2.1 1 = .ok (.invokespecial 3, 3) := by decide +kernel
theorem lo_Ou_3 : Cond.methodLink "MaypoleGreen$Outlook" 3 Lib.objectInit ∈ aw_T := aw_in 369 (by decide +kernel) rfl
theorem d_Ou_init_4 : decode m_Ou_init.2.1 4 = .ok (.aload_n 0, 1) := by decide +kernel
theorem d_Ou_init_5 : decode m_Ou_init.2.1 5 = .ok (.iconst 4, 1) := by decide +kernel
theorem d_Ou_init_6 : decode m_Ou_init.2.1 6 = .ok (.newarray .int, 2) := by decide +kernel
theorem d_Ou_init_8 : decode m_Ou_init.2.1 8 = .ok (.putfield 9, 3) := by decide +kernel
theorem d_Ou_init_11 : decode m_Ou_init.2.1 11 = .ok (.aload_n 0, 1) := by decide +kernel
theorem d_Ou_init_12 : decode m_Ou_init.2.1 12 = .ok (.iconst 4, 1) := by decide +kernel
theorem d_Ou_init_13 : decode m_Ou_init.2.1 13 = .ok (.newarray .int, 2) := by decide +kernel
theorem d_Ou_init_15 : decode m_Ou_init.2.1 15 = .ok (.putfield 15, 3) := by decide +kernel
theorem d_Ou_init_18 : decode m_Ou_init.2.1 18 = .ok (.aload_n 0, 1) := by decide +kernel
theorem d_Ou_init_19 : decode m_Ou_init.2.1 19 = .ok (.bipush 7, 2) := by decide +kernel
theorem d_Ou_init_21 : decode m_Ou_init.2.1 21 = .ok (.newarray .int, 2) := by decide +kernel
theorem d_Ou_init_23 : decode m_Ou_init.2.1 23 = .ok (.putfield 18, 3) := by decide +kernel
theorem d_Ou_init_26 : decode m_Ou_init.2.1 26 = .ok (.aload_n 0, 1) := by decide +kernel
theorem d_Ou_init_27 : decode m_Ou_init.2.1 27 = .ok (.bipush 7, 2) := by decide +kernel
theorem d_Ou_init_29 : decode m_Ou_init.2.1 29 = .ok (.newarray .int, 2) := by decide +kernel
theorem d_Ou_init_31 : decode m_Ou_init.2.1 31 = .ok (.putfield 21, 3) := by decide +kernel
theorem d_Ou_init_34 : decode m_Ou_init.2.1 34 = .ok (.aload_n 0, 1) := by decide +kernel
theorem d_Ou_init_35 : decode m_Ou_init.2.1 35 = .ok (.bipush 7, 2) := by decide +kernel
theorem d_Ou_init_37 : decode m_Ou_init.2.1 37 = .ok (.newarray .int, 2) := by decide +kernel
theorem d_Ou_init_39 : decode m_Ou_init.2.1 39 = .ok (.putfield 24, 3) := by decide +kernel
theorem d_Ou_init_42 : decode m_Ou_init.2.1 42 = .ok (.aload_n 0, 1) := by decide +kernel
theorem d_Ou_init_43 : decode m_Ou_init.2.1 43 = .ok (.bipush 49, 2) := by decide +kernel
theorem d_Ou_init_45 : decode m_Ou_init.2.1 45 = .ok (.newarray .int, 2) := by decide +kernel
theorem d_Ou_init_47 : decode m_Ou_init.2.1 47 = .ok (.putfield 27, 3) := by decide +kernel
theorem d_Ou_init_50 : decode m_Ou_init.2.1 50 = .ok (.return_, 1) := by decide +kernel
theorem k_Ou_init : aw_K m_Ou_init 0 := ⟨aw_in 368 (by decide +kernel) rfl, aw_in 14 (by decide +kernel) rfl, ⟨by decide, by decide, by decide +kernel⟩, by decide, by decide +kernel⟩
abbrev m_Ch_init : aw_MI := (⟨"MaypoleGreen$Chances", "<init>", "()V"⟩, prog_2_method_1_code, 1, none)
theorem d_Ch_init_0 : decode m_Ch_init.2.1 0 = .ok (.aload_n 0, 1) := by decide +kernel
theorem d_Ch_init_1 : decode m_Ch_init.2.1 1 = .ok (.invokespecial 3, 3) := by decide +kernel
theorem lo_Ch_3 : Cond.methodLink "MaypoleGreen$Chances" 3 Lib.objectInit ∈ aw_T := aw_in 407 (by decide +kernel) rfl
theorem d_Ch_init_4 : decode m_Ch_init.2.1 4 = .ok (.aload_n 0, 1) := by decide +kernel
theorem d_Ch_init_5 : decode m_Ch_init.2.1 5 = .ok (.lconst 1, 1) := by decide +kernel
theorem d_Ch_init_6 : decode m_Ch_init.2.1 6 = .ok (.putfield 9, 3) := by decide +kernel
theorem d_Ch_init_9 : decode m_Ch_init.2.1 9 = .ok (.aload_n 0, 1) := by decide +kernel
theorem d_Ch_init_10 : decode m_Ch_init.2.1 10 = .ok (.bipush 13, 2) := by decide +kernel
theorem d_Ch_init_12 : decode m_Ch_init.2.1 12 = .ok (.newarray .long, 2) := by decide +kernel
theorem d_Ch_init_14 : decode m_Ch_init.2.1 14 = .ok (.putfield 15, 3) := by decide +kernel
theorem d_Ch_init_17 : decode m_Ch_init.2.1 17 = .ok (.aload_n 0, 1) := by decide +kernel
theorem d_Ch_init_18 : decode m_Ch_init.2.1 18 = .ok (.bipush 13, 2) := by decide +kernel
theorem d_Ch_init_20 : decode m_Ch_init.2.1 20 = .ok (.newarray .long, 2) := by decide +kernel
theorem d_Ch_init_22 : decode m_Ch_init.2.1 22 = .ok (.putfield 19, 3) := by decide +kernel
theorem d_Ch_init_25 : decode m_Ch_init.2.1 25 = .ok (.return_, 1) := by decide +kernel
theorem k_Ch_init : aw_K m_Ch_init 0 := ⟨aw_in 406 (by decide +kernel) rfl, aw_in 15 (by decide +kernel) rfl, ⟨by decide, by decide, by decide +kernel⟩, by decide, by decide +kernel⟩
abbrev m_Gr_init : aw_MI := (⟨"MaypoleGreen$Green", "<init>", "()V"⟩, prog_4_method_1_code, 1, none)
theorem d_Gr_init_0 : decode m_Gr_init.2.1 0 = .ok (.aload_n 0, 1) := by decide +kernel
theorem d_Gr_init_1 : decode m_Gr_init.2.1 1 = .ok (.invokespecial 3, 3) := by decide +kernel
theorem lo_Gr_3 : Cond.methodLink "MaypoleGreen$Green" 3 Lib.objectInit ∈ aw_T := aw_in 61 (by decide +kernel) rfl
theorem d_Gr_init_4 : decode m_Gr_init.2.1 4 = .ok (.aload_n 0, 1) := by decide +kernel
theorem d_Gr_init_5 : decode m_Gr_init.2.1 5 = .ok (.bipush 7, 2) := by decide +kernel
theorem d_Gr_init_7 : decode m_Gr_init.2.1 7 = .ok (.newarray .long, 2) := by decide +kernel
theorem d_Gr_init_9 : decode m_Gr_init.2.1 9 = .ok (.putfield 9, 3) := by decide +kernel
theorem d_Gr_init_12 : decode m_Gr_init.2.1 12 = .ok (.aload_n 0, 1) := by decide +kernel
theorem d_Gr_init_13 : decode m_Gr_init.2.1 13 = .ok (.bipush 7, 2) := by decide +kernel
theorem d_Gr_init_15 : decode m_Gr_init.2.1 15 = .ok (.newarray .int, 2) := by decide +kernel
theorem d_Gr_init_17 : decode m_Gr_init.2.1 17 = .ok (.putfield 15, 3) := by decide +kernel
theorem d_Gr_init_20 : decode m_Gr_init.2.1 20 = .ok (.aload_n 0, 1) := by decide +kernel
theorem d_Gr_init_21 : decode m_Gr_init.2.1 21 = .ok (.bipush 7, 2) := by decide +kernel
theorem d_Gr_init_23 : decode m_Gr_init.2.1 23 = .ok (.newarray .int, 2) := by decide +kernel
theorem d_Gr_init_25 : decode m_Gr_init.2.1 25 = .ok (.putfield 19, 3) := by decide +kernel
theorem d_Gr_init_28 : decode m_Gr_init.2.1 28 = .ok (.aload_n 0, 1) := by decide +kernel
theorem d_Gr_init_29 : decode m_Gr_init.2.1 29 = .ok (.bipush 7, 2) := by decide +kernel
theorem d_Gr_init_31 : decode m_Gr_init.2.1 31 = .ok (.newarray .int, 2) := by decide +kernel
theorem d_Gr_init_33 : decode m_Gr_init.2.1 33 = .ok (.putfield 22, 3) := by decide +kernel
theorem d_Gr_init_36 : decode m_Gr_init.2.1 36 = .ok (.aload_n 0, 1) := by decide +kernel
theorem d_Gr_init_37 : decode m_Gr_init.2.1 37 = .ok (.bipush 7, 2) := by decide +kernel
theorem d_Gr_init_39 : decode m_Gr_init.2.1 39 = .ok (.newarray .int, 2) := by decide +kernel
theorem d_Gr_init_41 : decode m_Gr_init.2.1 41 = .ok (.putfield 25, 3) := by decide +kernel
theorem d_Gr_init_44 : decode m_Gr_init.2.1 44 = .ok (.aload_n 0, 1) := by decide +kernel
theorem d_Gr_init_45 : decode m_Gr_init.2.1 45 = .ok (.new 28, 3) := by decide +kernel
theorem nw_Gr_28 : aw_NW "MaypoleGreen$Green" 28 3 := ⟨cR3, cT3, 2, fun k => cY3.getD k .int, rfl, ci3, cy3, rfl, aw_in 62 (by decide +kernel) rfl, aw_in 63 (by decide +kernel) rfl, aw_in 4 (by decide +kernel) rfl, by decide⟩
theorem d_Gr_init_48 : decode m_Gr_init.2.1 48 = .ok (.dup, 1) := by decide +kernel
theorem d_Gr_init_49 : decode m_Gr_init.2.1 49 = .ok (.bipush 40, 2) := by decide +kernel
theorem d_Gr_init_51 : decode m_Gr_init.2.1 51 = .ok (.invokespecial 30, 3) := by decide +kernel
theorem lk_Gr_30 : Cond.methodLink "MaypoleGreen$Green" 30 m_Pl_init.1 ∈ aw_T := aw_in 64 (by decide +kernel) rfl
theorem in_Pl_init : Cond.instanceMethod m_Pl_init.1 ∈ aw_T := aw_in 65 (by decide +kernel) rfl
theorem d_Gr_init_54 : decode m_Gr_init.2.1 54 = .ok (.putfield 33, 3) := by decide +kernel
theorem d_Gr_init_57 : decode m_Gr_init.2.1 57 = .ok (.aload_n 0, 1) := by decide +kernel
theorem d_Gr_init_58 : decode m_Gr_init.2.1 58 = .ok (.new 37, 3) := by decide +kernel
theorem nw_Gr_37 : aw_NW "MaypoleGreen$Green" 37 4 := ⟨cR4, cT4, 7, fun k => cY4.getD k .int, rfl, ci4, cy4, rfl, aw_in 81 (by decide +kernel) rfl, aw_in 82 (by decide +kernel) rfl, aw_in 5 (by decide +kernel) rfl, by decide⟩
theorem d_Gr_init_61 : decode m_Gr_init.2.1 61 = .ok (.dup, 1) := by decide +kernel
theorem d_Gr_init_62 : decode m_Gr_init.2.1 62 = .ok (.invokespecial 39, 3) := by decide +kernel
theorem ln_Gr_39 : Cond.methodLinkNest "MaypoleGreen$Green" 39 m_Fe_init.1 "MaypoleGreen" ∈ tables_1 := List.mem_of_getElem? (i := 83) (by decide +kernel)
theorem in_Fe_init : Cond.instanceMethod m_Fe_init.1 ∈ aw_T := aw_in 84 (by decide +kernel) rfl
theorem d_Gr_init_65 : decode m_Gr_init.2.1 65 = .ok (.putfield 40, 3) := by decide +kernel
theorem d_Gr_init_68 : decode m_Gr_init.2.1 68 = .ok (.aload_n 0, 1) := by decide +kernel
theorem d_Gr_init_69 : decode m_Gr_init.2.1 69 = .ok (.bipush 7, 2) := by decide +kernel
theorem d_Gr_init_71 : decode m_Gr_init.2.1 71 = .ok (.newarray .int, 2) := by decide +kernel
theorem d_Gr_init_73 : decode m_Gr_init.2.1 73 = .ok (.putfield 44, 3) := by decide +kernel
theorem d_Gr_init_76 : decode m_Gr_init.2.1 76 = .ok (.aload_n 0, 1) := by decide +kernel
theorem d_Gr_init_77 : decode m_Gr_init.2.1 77 = .ok (.iconst 2, 1) := by decide +kernel
theorem d_Gr_init_78 : decode m_Gr_init.2.1 78 = .ok (.putfield 47, 3) := by decide +kernel
theorem d_Gr_init_81 : decode m_Gr_init.2.1 81 = .ok (.aload_n 0, 1) := by decide +kernel
theorem d_Gr_init_82 : decode m_Gr_init.2.1 82 = .ok (.bipush 12, 2) := by decide +kernel
theorem d_Gr_init_84 : decode m_Gr_init.2.1 84 = .ok (.putfield 51, 3) := by decide +kernel
theorem d_Gr_init_87 : decode m_Gr_init.2.1 87 = .ok (.return_, 1) := by decide +kernel
theorem k_Gr_init : aw_K m_Gr_init 0 := ⟨aw_in 60 (by decide +kernel) rfl, aw_in 3 (by decide +kernel) rfl, ⟨by decide, by decide, by decide +kernel⟩, by decide, by decide +kernel⟩
def E_Tr_init (S : aw_S) (a n : Nat) : aw_S := aw_uR (aw_z S n) a 0 (some n)
set_option maxRecDepth 4000 in
theorem mk_Tr_init {l : Launch} {d : Nat} {sh : aw_SH} {S : aw_S} {a n : Nat} (sa : sh[a]? = some (0, 1)) (hn : sh.length = n) : Sp l m_Tr_init (d + 1) 1 60 [.ref a] sh S (fun r sh' S' => r = none ∧ sh' = sh ++ [(4, 60)] ∧ S' = E_Tr_init S a n) := by
  refine Sp.of k_Tr_init (ls := [.ref a]) rfl (Nat.le_of_ble_eq_true rfl) ?_
  refine r_aload_n (pc := 0) d_Tr_init_0 (x := a) rfl ?_
  refine r_objInit (pc := 1) d_Tr_init_1 lo_Tr_3 aw_oi aw_oc (Nat.le_of_ble_eq_true rfl) ?_
  refine r_aload_n (pc := 4) d_Tr_init_4 (x := a) rfl ?_
  refine r_bipush (pc := 5) d_Tr_init_5 (v := 60) (by decide) ?_
  refine r_newaVl (n := n) hn (pc := 7) d_Tr_init_7 aw_ac_long (by decide) (N := 60) (by decide) (by decide) (Nat.le_of_ble_eq_true rfl) (Nat.le_of_ble_eq_true rfl) (fun sh1 esh1 => ?_)
  have hn2 := aw_len1 esh1 hn
  have w3 := aw_old esh1 sa
  have w4 := aw_nw1 esh1 hn
  refine r_putRF (pc := 9) d_Tr_init_9 f_Tr_9 w3 (Or.inr ⟨_, rfl⟩) rfl rfl ?_
  exact r_return (pc := 12) d_Tr_init_12 rfl rfl (Nat.le_refl _) ⟨rfl, esh1, rfl⟩
def E_Pl_init_40 (S : aw_S) (a n : Nat) : aw_S := aw_uR (aw_z S n) a 0 (some n)
set_option maxRecDepth 4000 in
theorem mk_Pl_init_40 {l : Launch} {d : Nat} {sh : aw_SH} {S : aw_S} {a n : Nat} (sa : sh[a]? = some (0, 3)) (hn : sh.length = n) : Sp l m_Pl_init (d + 1) 1 40 [.ref a, .int 40] sh S (fun r sh' S' => r = none ∧ sh' = sh ++ [(3, 40)] ∧ S' = E_Pl_init_40 S a n) := by
  refine Sp.of k_Pl_init (ls := [.ref a, .int 40]) rfl (Nat.le_of_ble_eq_true rfl) ?_
  refine r_aload_n (pc := 0) d_Pl_init_0 (x := a) rfl ?_
  refine r_objInit (pc := 1) d_Pl_init_1 lo_Pl_3 aw_oi aw_oc (Nat.le_of_ble_eq_true rfl) ?_
  refine r_aload_n (pc := 4) d_Pl_init_4 (x := a) rfl ?_
  refine r_iload_n (pc := 5) d_Pl_init_5 (x := 40) rfl ?_
  refine r_newaVi (n := n) hn (pc := 6) d_Pl_init_6 aw_ac_int (by decide) (N := 40) (by decide) (by decide) (Nat.le_of_ble_eq_true rfl) (Nat.le_of_ble_eq_true rfl) (fun sh1 esh1 => ?_)
  have hn2 := aw_len1 esh1 hn
  have w3 := aw_old esh1 sa
  have w4 := aw_nw1 esh1 hn
  refine r_putRF (pc := 8) d_Pl_init_8 f_Pl_9 w3 (Or.inr ⟨_, rfl⟩) rfl rfl ?_
  exact r_return (pc := 11) d_Pl_init_11 rfl rfl (Nat.le_refl _) ⟨rfl, esh1, rfl⟩
def E_Pl_init_80 (S : aw_S) (a n : Nat) : aw_S := aw_uR (aw_z S n) a 0 (some n)
set_option maxRecDepth 4000 in
theorem mk_Pl_init_80 {l : Launch} {d : Nat} {sh : aw_SH} {S : aw_S} {a n : Nat} (sa : sh[a]? = some (0, 3)) (hn : sh.length = n) : Sp l m_Pl_init (d + 1) 1 80 [.ref a, .int 80] sh S (fun r sh' S' => r = none ∧ sh' = sh ++ [(3, 80)] ∧ S' = E_Pl_init_80 S a n) := by
  refine Sp.of k_Pl_init (ls := [.ref a, .int 80]) rfl (Nat.le_of_ble_eq_true rfl) ?_
  refine r_aload_n (pc := 0) d_Pl_init_0 (x := a) rfl ?_
  refine r_objInit (pc := 1) d_Pl_init_1 lo_Pl_3 aw_oi aw_oc (Nat.le_of_ble_eq_true rfl) ?_
  refine r_aload_n (pc := 4) d_Pl_init_4 (x := a) rfl ?_
  refine r_iload_n (pc := 5) d_Pl_init_5 (x := 80) rfl ?_
  refine r_newaVi (n := n) hn (pc := 6) d_Pl_init_6 aw_ac_int (by decide) (N := 80) (by decide) (by decide) (Nat.le_of_ble_eq_true rfl) (Nat.le_of_ble_eq_true rfl) (fun sh1 esh1 => ?_)
  have hn2 := aw_len1 esh1 hn
  have w3 := aw_old esh1 sa
  have w4 := aw_nw1 esh1 hn
  refine r_putRF (pc := 8) d_Pl_init_8 f_Pl_9 w3 (Or.inr ⟨_, rfl⟩) rfl rfl ?_
  exact r_return (pc := 11) d_Pl_init_11 rfl rfl (Nat.le_refl _) ⟨rfl, esh1, rfl⟩
def E_Fe_init (S : aw_S) (a n : Nat) : aw_S := aw_uR (aw_z (aw_uR (aw_z (aw_uR (aw_z (aw_uR (aw_z (aw_uR (aw_z S n) a 2 (some n)) (n + 1)) a 3 (some (n + 1))) (n + 2)) a 4 (some (n + 2))) (n + 3)) a 5 (some (n + 3))) (n + 4)) a 6 (some (n + 4))
set_option maxRecDepth 4000 in
theorem mk_Fe_init {l : Launch} {d : Nat} {sh : aw_SH} {S : aw_S} {a n : Nat} (sa : sh[a]? = some (0, 4)) (hn : sh.length = n) : Sp l m_Fe_init (d + 1) 5 150 [.ref a] sh S (fun r sh' S' => r = none ∧ sh' = sh ++ [(3, 30), (3, 30), (3, 30), (3, 30), (3, 30)] ∧ S' = E_Fe_init S a n) := by
  refine Sp.of k_Fe_init (ls := [.ref a]) rfl (Nat.le_of_ble_eq_true rfl) ?_
  refine r_aload_n (pc := 0) d_Fe_init_0 (x := a) rfl ?_
  refine r_objInit (pc := 1) d_Fe_init_1 lo_Fe_3 aw_oi aw_oc (Nat.le_of_ble_eq_true rfl) ?_
  refine r_aload_n (pc := 4) d_Fe_init_4 (x := a) rfl ?_
  refine r_bipush (pc := 5) d_Fe_init_5 (v := 30) (by decide) ?_
  refine r_newaVi (n := n) hn (pc := 7) d_Fe_init_7 aw_ac_int (by decide) (N := 30) (by decide) (by decide) (Nat.le_of_ble_eq_true rfl) (Nat.le_of_ble_eq_true rfl) (fun sh1 esh1 => ?_)
  have hn2 := aw_len1 esh1 hn
  have w3 := aw_old esh1 sa
  have w4 := aw_nw1 esh1 hn
  refine r_putRF (pc := 9) d_Fe_init_9 f_Fe_9 w3 (Or.inr ⟨_, rfl⟩) rfl rfl ?_
  refine r_aload_n (pc := 12) d_Fe_init_12 (x := a) rfl ?_
  refine r_bipush (pc := 13) d_Fe_init_13 (v := 30) (by decide) ?_
  refine r_newaVi (n := n + 1) hn2 (pc := 15) d_Fe_init_15 aw_ac_int (by decide) (N := 30) (by decide) (by decide) (Nat.le_of_ble_eq_true rfl) (Nat.le_of_ble_eq_true rfl) (fun sh5 esh5 => ?_)
  have hn6 := aw_len1 esh5 hn2
  have w7 := aw_old esh5 w3
  have w8 := aw_nw1 esh5 hn2
  refine r_putRF (pc := 17) d_Fe_init_17 f_Fe_15 w7 (Or.inr ⟨_, rfl⟩) rfl rfl ?_
  refine r_aload_n (pc := 20) d_Fe_init_20 (x := a) rfl ?_
  refine r_bipush (pc := 21) d_Fe_init_21 (v := 30) (by decide) ?_
  refine r_newaVi (n := n + 2) hn6 (pc := 23) d_Fe_init_23 aw_ac_int (by decide) (N := 30) (by decide) (by decide) (Nat.le_of_ble_eq_true rfl) (Nat.le_of_ble_eq_true rfl) (fun sh9 esh9 => ?_)
  have hn10 := aw_len1 esh9 hn6
  have w11 := aw_old esh9 w7
  have w12 := aw_nw1 esh9 hn6
  refine r_putRF (pc := 25) d_Fe_init_25 f_Fe_18 w11 (Or.inr ⟨_, rfl⟩) rfl rfl ?_
  refine r_aload_n (pc := 28) d_Fe_init_28 (x := a) rfl ?_
  refine r_bipush (pc := 29) d_Fe_init_29 (v := 30) (by decide) ?_
  refine r_newaVi (n := n + 3) hn10 (pc := 31) d_Fe_init_31 aw_ac_int (by decide) (N := 30) (by decide) (by decide) (Nat.le_of_ble_eq_true rfl) (Nat.le_of_ble_eq_true rfl) (fun sh13 esh13 => ?_)
  have hn14 := aw_len1 esh13 hn10
  have w15 := aw_old esh13 w11
  have w16 := aw_nw1 esh13 hn10
  refine r_putRF (pc := 33) d_Fe_init_33 f_Fe_21 w15 (Or.inr ⟨_, rfl⟩) rfl rfl ?_
  refine r_aload_n (pc := 36) d_Fe_init_36 (x := a) rfl ?_
  refine r_bipush (pc := 37) d_Fe_init_37 (v := 30) (by decide) ?_
  refine r_newaVi (n := n + 4) hn14 (pc := 39) d_Fe_init_39 aw_ac_int (by decide) (N := 30) (by decide) (by decide) (Nat.le_of_ble_eq_true rfl) (Nat.le_of_ble_eq_true rfl) (fun sh17 esh17 => ?_)
  have hn18 := aw_len1 esh17 hn14
  have w19 := aw_old esh17 w15
  have w20 := aw_nw1 esh17 hn14
  refine r_putRF (pc := 41) d_Fe_init_41 f_Fe_24 w19 (Or.inr ⟨_, rfl⟩) rfl rfl ?_
  exact r_return (pc := 44) d_Fe_init_44 rfl rfl (Nat.le_refl _) ⟨rfl, by rw [esh17, esh13, esh9, esh5, esh1]; simp, rfl⟩
def E_Li_init (S : aw_S) (a n : Nat) : aw_S := S
set_option maxRecDepth 4000 in
theorem mk_Li_init {l : Launch} {d : Nat} {sh : aw_SH} {S : aw_S} {a n : Nat} (sa : sh[a]? = some (0, 7)) (hn : sh.length = n) : Sp l m_Li_init (d + 1) 0 0 [.ref a] sh S (fun r sh' S' => r = none ∧ sh' = sh ++ [] ∧ S' = E_Li_init S a n) := by
  refine Sp.of k_Li_init (ls := [.ref a]) rfl (Nat.le_of_ble_eq_true rfl) ?_
  refine r_aload_n (pc := 0) d_Li_init_0 (x := a) rfl ?_
  refine r_objInit (pc := 1) d_Li_init_1 lo_Li_3 aw_oi aw_oc (Nat.le_of_ble_eq_true rfl) ?_
  exact r_return (pc := 4) d_Li_init_4 rfl rfl (Nat.le_refl _) ⟨rfl, by simp, rfl⟩
def E_Ho_init (S : aw_S) (a n : Nat) : aw_S := aw_uR (aw_z (aw_uR (aw_z S n) a 0 (some n)) (n + 1)) a 1 (some (n + 1))
set_option maxRecDepth 4000 in
theorem mk_Ho_init {l : Launch} {d : Nat} {sh : aw_SH} {S : aw_S} {a n : Nat} (sa : sh[a]? = some (0, 8)) (hn : sh.length = n) : Sp l m_Ho_init (d + 1) 2 14 [.ref a] sh S (fun r sh' S' => r = none ∧ sh' = sh ++ [(3, 7), (3, 7)] ∧ S' = E_Ho_init S a n) := by
  refine Sp.of k_Ho_init (ls := [.ref a]) rfl (Nat.le_of_ble_eq_true rfl) ?_
  refine r_aload_n (pc := 0) d_Ho_init_0 (x := a) rfl ?_
  refine r_objInit (pc := 1) d_Ho_init_1 lo_Ho_3 aw_oi aw_oc (Nat.le_of_ble_eq_true rfl) ?_
  refine r_aload_n (pc := 4) d_Ho_init_4 (x := a) rfl ?_
  refine r_bipush (pc := 5) d_Ho_init_5 (v := 7) (by decide) ?_
  refine r_newaVi (n := n) hn (pc := 7) d_Ho_init_7 aw_ac_int (by decide) (N := 7) (by decide) (by decide) (Nat.le_of_ble_eq_true rfl) (Nat.le_of_ble_eq_true rfl) (fun sh1 esh1 => ?_)
  have hn2 := aw_len1 esh1 hn
  have w3 := aw_old esh1 sa
  have w4 := aw_nw1 esh1 hn
  refine r_putRF (pc := 9) d_Ho_init_9 f_Ho_9 w3 (Or.inr ⟨_, rfl⟩) rfl rfl ?_
  refine r_aload_n (pc := 12) d_Ho_init_12 (x := a) rfl ?_
  refine r_bipush (pc := 13) d_Ho_init_13 (v := 7) (by decide) ?_
  refine r_newaVi (n := n + 1) hn2 (pc := 15) d_Ho_init_15 aw_ac_int (by decide) (N := 7) (by decide) (by decide) (Nat.le_of_ble_eq_true rfl) (Nat.le_of_ble_eq_true rfl) (fun sh5 esh5 => ?_)
  have hn6 := aw_len1 esh5 hn2
  have w7 := aw_old esh5 w3
  have w8 := aw_nw1 esh5 hn2
  refine r_putRF (pc := 17) d_Ho_init_17 f_Ho_15 w7 (Or.inr ⟨_, rfl⟩) rfl rfl ?_
  exact r_return (pc := 20) d_Ho_init_20 rfl rfl (Nat.le_refl _) ⟨rfl, by rw [esh5, esh1]; simp, rfl⟩
def E_Ou_init (S : aw_S) (a n : Nat) : aw_S := aw_uR (aw_z (aw_uR (aw_z (aw_uR (aw_z (aw_uR (aw_z (aw_uR (aw_z (aw_uR (aw_z S n) a 1 (some n)) (n + 1)) a 4 (some (n + 1))) (n + 2)) a 5 (some (n + 2))) (n + 3)) a 6 (some (n + 3))) (n + 4)) a 7 (some (n + 4))) (n + 5)) a 8 (some (n + 5))
set_option maxRecDepth 4000 in
theorem mk_Ou_init {l : Launch} {d : Nat} {sh : aw_SH} {S : aw_S} {a n : Nat} (sa : sh[a]? = some (0, 9)) (hn : sh.length = n) : Sp l m_Ou_init (d + 1) 6 78 [.ref a] sh S (fun r sh' S' => r = none ∧ sh' = sh ++ [(3, 4), (3, 4), (3, 7), (3, 7), (3, 7), (3, 49)] ∧ S' = E_Ou_init S a n) := by
  refine Sp.of k_Ou_init (ls := [.ref a]) rfl (Nat.le_of_ble_eq_true rfl) ?_
  refine r_aload_n (pc := 0) d_Ou_init_0 (x := a) rfl ?_
  refine r_objInit (pc := 1) d_Ou_init_1 lo_Ou_3 aw_oi aw_oc (Nat.le_of_ble_eq_true rfl) ?_
  refine r_aload_n (pc := 4) d_Ou_init_4 (x := a) rfl ?_
  refine r_iconst (pc := 5) d_Ou_init_5 (v := 4) (by decide) ?_
  refine r_newaVi (n := n) hn (pc := 6) d_Ou_init_6 aw_ac_int (by decide) (N := 4) (by decide) (by decide) (Nat.le_of_ble_eq_true rfl) (Nat.le_of_ble_eq_true rfl) (fun sh1 esh1 => ?_)
  have hn2 := aw_len1 esh1 hn
  have w3 := aw_old esh1 sa
  have w4 := aw_nw1 esh1 hn
  refine r_putRF (pc := 8) d_Ou_init_8 f_Ou_9 w3 (Or.inr ⟨_, rfl⟩) rfl rfl ?_
  refine r_aload_n (pc := 11) d_Ou_init_11 (x := a) rfl ?_
  refine r_iconst (pc := 12) d_Ou_init_12 (v := 4) (by decide) ?_
  refine r_newaVi (n := n + 1) hn2 (pc := 13) d_Ou_init_13 aw_ac_int (by decide) (N := 4) (by decide) (by decide) (Nat.le_of_ble_eq_true rfl) (Nat.le_of_ble_eq_true rfl) (fun sh5 esh5 => ?_)
  have hn6 := aw_len1 esh5 hn2
  have w7 := aw_old esh5 w3
  have w8 := aw_nw1 esh5 hn2
  refine r_putRF (pc := 15) d_Ou_init_15 f_Ou_15 w7 (Or.inr ⟨_, rfl⟩) rfl rfl ?_
  refine r_aload_n (pc := 18) d_Ou_init_18 (x := a) rfl ?_
  refine r_bipush (pc := 19) d_Ou_init_19 (v := 7) (by decide) ?_
  refine r_newaVi (n := n + 2) hn6 (pc := 21) d_Ou_init_21 aw_ac_int (by decide) (N := 7) (by decide) (by decide) (Nat.le_of_ble_eq_true rfl) (Nat.le_of_ble_eq_true rfl) (fun sh9 esh9 => ?_)
  have hn10 := aw_len1 esh9 hn6
  have w11 := aw_old esh9 w7
  have w12 := aw_nw1 esh9 hn6
  refine r_putRF (pc := 23) d_Ou_init_23 f_Ou_18 w11 (Or.inr ⟨_, rfl⟩) rfl rfl ?_
  refine r_aload_n (pc := 26) d_Ou_init_26 (x := a) rfl ?_
  refine r_bipush (pc := 27) d_Ou_init_27 (v := 7) (by decide) ?_
  refine r_newaVi (n := n + 3) hn10 (pc := 29) d_Ou_init_29 aw_ac_int (by decide) (N := 7) (by decide) (by decide) (Nat.le_of_ble_eq_true rfl) (Nat.le_of_ble_eq_true rfl) (fun sh13 esh13 => ?_)
  have hn14 := aw_len1 esh13 hn10
  have w15 := aw_old esh13 w11
  have w16 := aw_nw1 esh13 hn10
  refine r_putRF (pc := 31) d_Ou_init_31 f_Ou_21 w15 (Or.inr ⟨_, rfl⟩) rfl rfl ?_
  refine r_aload_n (pc := 34) d_Ou_init_34 (x := a) rfl ?_
  refine r_bipush (pc := 35) d_Ou_init_35 (v := 7) (by decide) ?_
  refine r_newaVi (n := n + 4) hn14 (pc := 37) d_Ou_init_37 aw_ac_int (by decide) (N := 7) (by decide) (by decide) (Nat.le_of_ble_eq_true rfl) (Nat.le_of_ble_eq_true rfl) (fun sh17 esh17 => ?_)
  have hn18 := aw_len1 esh17 hn14
  have w19 := aw_old esh17 w15
  have w20 := aw_nw1 esh17 hn14
  refine r_putRF (pc := 39) d_Ou_init_39 f_Ou_24 w19 (Or.inr ⟨_, rfl⟩) rfl rfl ?_
  refine r_aload_n (pc := 42) d_Ou_init_42 (x := a) rfl ?_
  refine r_bipush (pc := 43) d_Ou_init_43 (v := 49) (by decide) ?_
  refine r_newaVi (n := n + 5) hn18 (pc := 45) d_Ou_init_45 aw_ac_int (by decide) (N := 49) (by decide) (by decide) (Nat.le_of_ble_eq_true rfl) (Nat.le_of_ble_eq_true rfl) (fun sh21 esh21 => ?_)
  have hn22 := aw_len1 esh21 hn18
  have w23 := aw_old esh21 w19
  have w24 := aw_nw1 esh21 hn18
  refine r_putRF (pc := 47) d_Ou_init_47 f_Ou_27 w23 (Or.inr ⟨_, rfl⟩) rfl rfl ?_
  exact r_return (pc := 50) d_Ou_init_50 rfl rfl (Nat.le_refl _) ⟨rfl, by rw [esh21, esh17, esh13, esh9, esh5, esh1]; simp, rfl⟩
def E_Ch_init (S : aw_S) (a n : Nat) : aw_S := aw_uR (aw_z (aw_uR (aw_z (aw_uL S a 1 1) n) a 2 (some n)) (n + 1)) a 3 (some (n + 1))
set_option maxRecDepth 4000 in
theorem mk_Ch_init {l : Launch} {d : Nat} {sh : aw_SH} {S : aw_S} {a n : Nat} (sa : sh[a]? = some (0, 10)) (hn : sh.length = n) : Sp l m_Ch_init (d + 1) 2 26 [.ref a] sh S (fun r sh' S' => r = none ∧ sh' = sh ++ [(4, 13), (4, 13)] ∧ S' = E_Ch_init S a n) := by
  refine Sp.of k_Ch_init (ls := [.ref a]) rfl (Nat.le_of_ble_eq_true rfl) ?_
  refine r_aload_n (pc := 0) d_Ch_init_0 (x := a) rfl ?_
  refine r_objInit (pc := 1) d_Ch_init_1 lo_Ch_3 aw_oi aw_oc (Nat.le_of_ble_eq_true rfl) ?_
  refine r_aload_n (pc := 4) d_Ch_init_4 (x := a) rfl ?_
  refine r_lconst (pc := 5) d_Ch_init_5 (v := 1) (by decide) ?_
  refine r_putL (pc := 6) d_Ch_init_6 f_Ch_9 sa rfl ?_
  refine r_aload_n (pc := 9) d_Ch_init_9 (x := a) rfl ?_
  refine r_bipush (pc := 10) d_Ch_init_10 (v := 13) (by decide) ?_
  refine r_newaVl (n := n) hn (pc := 12) d_Ch_init_12 aw_ac_long (by decide) (N := 13) (by decide) (by decide) (Nat.le_of_ble_eq_true rfl) (Nat.le_of_ble_eq_true rfl) (fun sh1 esh1 => ?_)
  have hn2 := aw_len1 esh1 hn
  have w3 := aw_old esh1 sa
  have w4 := aw_nw1 esh1 hn
  refine r_putRF (pc := 14) d_Ch_init_14 f_Ch_15 w3 (Or.inr ⟨_, rfl⟩) rfl rfl ?_
  refine r_aload_n (pc := 17) d_Ch_init_17 (x := a) rfl ?_
  refine r_bipush (pc := 18) d_Ch_init_18 (v := 13) (by decide) ?_
  refine r_newaVl (n := n + 1) hn2 (pc := 20) d_Ch_init_20 aw_ac_long (by decide) (N := 13) (by decide) (by decide) (Nat.le_of_ble_eq_true rfl) (Nat.le_of_ble_eq_true rfl) (fun sh5 esh5 => ?_)
  have hn6 := aw_len1 esh5 hn2
  have w7 := aw_old esh5 w3
  have w8 := aw_nw1 esh5 hn2
  refine r_putRF (pc := 22) d_Ch_init_22 f_Ch_19 w7 (Or.inr ⟨_, rfl⟩) rfl rfl ?_
  exact r_return (pc := 25) d_Ch_init_25 rfl rfl (Nat.le_refl _) ⟨rfl, by rw [esh5, esh1]; simp, rfl⟩
def E_Gr_init (S : aw_S) (a n : Nat) : aw_S := aw_uI (aw_uI (aw_uR (aw_z (aw_uR (E_Fe_init (aw_z (aw_uR (E_Pl_init_40 (aw_z (aw_uR (aw_z (aw_uR (aw_z (aw_uR (aw_z (aw_uR (aw_z (aw_uR (aw_z S n) a 5 (some n)) (n + 1)) a 6 (some (n + 1))) (n + 2)) a 7 (some (n + 2))) (n + 3)) a 8 (some (n + 3))) (n + 4)) a 9 (some (n + 4))) (n + 5)) (n + 5) (n + 6)) a 10 (some (n + 5))) (n + 7)) (n + 7) (n + 8)) a 11 (some (n + 7))) (n + 13)) a 12 (some (n + 13))) a 1 2) a 2 12
set_option maxRecDepth 4000 in
theorem mk_Gr_init {l : Launch} {d : Nat} {sh : aw_SH} {S : aw_S} {a n : Nat} (sa : sh[a]? = some (0, 2)) (hn : sh.length = n) : Sp l m_Gr_init (d + 2) 14 241 [.ref a] sh S (fun r sh' S' => r = none ∧ sh' = sh ++ [(4, 7), (3, 7), (3, 7), (3, 7), (3, 7), (0, 3), (3, 40), (0, 4), (3, 30), (3, 30), (3, 30), (3, 30), (3, 30), (3, 7)] ∧ S' = E_Gr_init S a n) := by
  refine Sp.of k_Gr_init (ls := [.ref a]) rfl (Nat.le_of_ble_eq_true rfl) ?_
  refine r_aload_n (pc := 0) d_Gr_init_0 (x := a) rfl ?_
  refine r_objInit (pc := 1) d_Gr_init_1 lo_Gr_3 aw_oi aw_oc (Nat.le_of_ble_eq_true rfl) ?_
  refine r_aload_n (pc := 4) d_Gr_init_4 (x := a) rfl ?_
  refine r_bipush (pc := 5) d_Gr_init_5 (v := 7) (by decide) ?_
  refine r_newaVl (n := n) hn (pc := 7) d_Gr_init_7 aw_ac_long (by decide) (N := 7) (by decide) (by decide) (Nat.le_of_ble_eq_true rfl) (Nat.le_of_ble_eq_true rfl) (fun sh1 esh1 => ?_)
  have hn2 := aw_len1 esh1 hn
  have w3 := aw_old esh1 sa
  have w4 := aw_nw1 esh1 hn
  refine r_putRF (pc := 9) d_Gr_init_9 f_Gr_9 w3 (Or.inr ⟨_, rfl⟩) rfl rfl ?_
  refine r_aload_n (pc := 12) d_Gr_init_12 (x := a) rfl ?_
  refine r_bipush (pc := 13) d_Gr_init_13 (v := 7) (by decide) ?_
  refine r_newaVi (n := n + 1) hn2 (pc := 15) d_Gr_init_15 aw_ac_int (by decide) (N := 7) (by decide) (by decide) (Nat.le_of_ble_eq_true rfl) (Nat.le_of_ble_eq_true rfl) (fun sh5 esh5 => ?_)
  have hn6 := aw_len1 esh5 hn2
  have w7 := aw_old esh5 w3
  have w8 := aw_nw1 esh5 hn2
  refine r_putRF (pc := 17) d_Gr_init_17 f_Gr_15 w7 (Or.inr ⟨_, rfl⟩) rfl rfl ?_
  refine r_aload_n (pc := 20) d_Gr_init_20 (x := a) rfl ?_
  refine r_bipush (pc := 21) d_Gr_init_21 (v := 7) (by decide) ?_
  refine r_newaVi (n := n + 2) hn6 (pc := 23) d_Gr_init_23 aw_ac_int (by decide) (N := 7) (by decide) (by decide) (Nat.le_of_ble_eq_true rfl) (Nat.le_of_ble_eq_true rfl) (fun sh9 esh9 => ?_)
  have hn10 := aw_len1 esh9 hn6
  have w11 := aw_old esh9 w7
  have w12 := aw_nw1 esh9 hn6
  refine r_putRF (pc := 25) d_Gr_init_25 f_Gr_19 w11 (Or.inr ⟨_, rfl⟩) rfl rfl ?_
  refine r_aload_n (pc := 28) d_Gr_init_28 (x := a) rfl ?_
  refine r_bipush (pc := 29) d_Gr_init_29 (v := 7) (by decide) ?_
  refine r_newaVi (n := n + 3) hn10 (pc := 31) d_Gr_init_31 aw_ac_int (by decide) (N := 7) (by decide) (by decide) (Nat.le_of_ble_eq_true rfl) (Nat.le_of_ble_eq_true rfl) (fun sh13 esh13 => ?_)
  have hn14 := aw_len1 esh13 hn10
  have w15 := aw_old esh13 w11
  have w16 := aw_nw1 esh13 hn10
  refine r_putRF (pc := 33) d_Gr_init_33 f_Gr_22 w15 (Or.inr ⟨_, rfl⟩) rfl rfl ?_
  refine r_aload_n (pc := 36) d_Gr_init_36 (x := a) rfl ?_
  refine r_bipush (pc := 37) d_Gr_init_37 (v := 7) (by decide) ?_
  refine r_newaVi (n := n + 4) hn14 (pc := 39) d_Gr_init_39 aw_ac_int (by decide) (N := 7) (by decide) (by decide) (Nat.le_of_ble_eq_true rfl) (Nat.le_of_ble_eq_true rfl) (fun sh17 esh17 => ?_)
  have hn18 := aw_len1 esh17 hn14
  have w19 := aw_old esh17 w15
  have w20 := aw_nw1 esh17 hn14
  refine r_putRF (pc := 41) d_Gr_init_41 f_Gr_25 w19 (Or.inr ⟨_, rfl⟩) rfl rfl ?_
  refine r_aload_n (pc := 44) d_Gr_init_44 (x := a) rfl ?_
  refine r_newV (n := n + 5) hn18 (pc := 45) d_Gr_init_45 nw_Gr_28 (Nat.le_of_ble_eq_true rfl) (Nat.le_of_ble_eq_true rfl) (fun sh21 esh21 => ?_)
  have hn22 := aw_len1 esh21 hn18
  have w23 := aw_old esh21 w19
  have w24 := aw_nw1 esh21 hn18
  refine r_dup (pc := 48) d_Gr_init_48 rfl ?_
  refine r_bipush (pc := 49) d_Gr_init_49 (v := 40) (by decide) ?_
  refine r_callI (pc := 51) (k := (n + 5)) (As := [.int 40]) (rest := [.ref (n + 5), .ref a]) (mc' := 1) (ms' := 40) lk_Gr_30 in_Pl_init rfl rfl d_Gr_init_51 k_Pl_init rfl rfl (Nat.le_of_ble_eq_true rfl) (Nat.le_of_ble_eq_true rfl) (Nat.le_of_ble_eq_true rfl) (Sp.mono (mk_Pl_init_40 w24 hn22) ?_)
  rintro _ sh25 _ ⟨rfl, esh25, rfl⟩
  have hn27 := aw_len1 esh25 hn22
  have w28 := aw_old esh25 w23
  have w29 := aw_old esh25 w24
  have w30 := aw_nw1 esh25 hn22
  refine r_putRF (pc := 54) d_Gr_init_54 f_Gr_33 w28 (Or.inl ⟨_, rfl⟩) rfl rfl ?_
  refine r_aload_n (pc := 57) d_Gr_init_57 (x := a) rfl ?_
  refine r_newV (n := n + 7) hn27 (pc := 58) d_Gr_init_58 nw_Gr_37 (Nat.le_of_ble_eq_true rfl) (Nat.le_of_ble_eq_true rfl) (fun sh31 esh31 => ?_)
  have hn32 := aw_len1 esh31 hn27
  have w33 := aw_old esh31 w28
  have w34 := aw_nw1 esh31 hn27
  refine r_dup (pc := 61) d_Gr_init_61 rfl ?_
  refine r_callIN (pc := 62) (k := (n + 7)) (As := []) (rest := [.ref (n + 7), .ref a]) (mc' := 5) (ms' := 150) ln_Gr_39 in_Fe_init rfl rfl d_Gr_init_62 k_Fe_init rfl rfl (Nat.le_of_ble_eq_true rfl) (Nat.le_of_ble_eq_true rfl) (Nat.le_of_ble_eq_true rfl) (Sp.mono (mk_Fe_init w34 hn32) ?_)
  rintro _ sh35 _ ⟨rfl, esh35, rfl⟩
  have hn37 : sh35.length = n + 13 := aw_lenL esh35 hn32
  have w38 := aw_old esh35 w33
  have w39 := aw_old esh35 w34
  refine r_putRF (pc := 65) d_Gr_init_65 f_Gr_40 w38 (Or.inl ⟨_, rfl⟩) rfl rfl ?_
  refine r_aload_n (pc := 68) d_Gr_init_68 (x := a) rfl ?_
  refine r_bipush (pc := 69) d_Gr_init_69 (v := 7) (by decide) ?_
  refine r_newaVi (n := n + 13) hn37 (pc := 71) d_Gr_init_71 aw_ac_int (by decide) (N := 7) (by decide) (by decide) (Nat.le_of_ble_eq_true rfl) (Nat.le_of_ble_eq_true rfl) (fun sh40 esh40 => ?_)
  have hn41 := aw_len1 esh40 hn37
  have w42 := aw_old esh40 w38
  have w43 := aw_nw1 esh40 hn37
  refine r_putRF (pc := 73) d_Gr_init_73 f_Gr_44 w42 (Or.inr ⟨_, rfl⟩) rfl rfl ?_
  refine r_aload_n (pc := 76) d_Gr_init_76 (x := a) rfl ?_
  refine r_iconst (pc := 77) d_Gr_init_77 (v := 2) (by decide) ?_
  refine r_putI (pc := 78) d_Gr_init_78 f_Gr_47 w42 rfl ?_
  refine r_aload_n (pc := 81) d_Gr_init_81 (x := a) rfl ?_
  refine r_bipush (pc := 82) d_Gr_init_82 (v := 12) (by decide) ?_
  refine r_putI (pc := 84) d_Gr_init_84 f_Gr_51 w42 rfl ?_
  exact r_return (pc := 87) d_Gr_init_87 rfl rfl (Nat.le_refl _) ⟨rfl, by rw [esh40, esh35, esh31, esh25, esh21, esh17, esh13, esh9, esh5, esh1]; simp, rfl⟩
