abbrev m_Re_init : aw_MI := (⟨"MaypoleGreen$Reader", "<init>", "()V"⟩, prog_10_method_1_code, 1, none)
theorem d_Re_init_0 : decode m_Re_init.2.1 0 = .ok (.aload_n 0, 1) := by decide +kernel
theorem d_Re_init_1 : decode m_Re_init.2.1 1 = .ok (.invokespecial 3, 3) := by decide +kernel
theorem lo_Re_3 : Cond.methodLink "MaypoleGreen$Reader" 3 Lib.objectInit ∈ aw_T := aw_in 192 (by decide +kernel) rfl
theorem d_Re_init_4 : decode m_Re_init.2.1 4 = .ok (.aload_n 0, 1) := by decide +kernel
theorem d_Re_init_5 : decode m_Re_init.2.1 5 = .ok (.new 9, 3) := by decide +kernel
theorem nw_Re_9 : aw_NW "MaypoleGreen$Reader" 9 6 := ⟨cR6, cT6, 11, fun k => cY6.getD k .int, rfl, ci6, cy6, rfl, aw_in 193 (by decide +kernel) rfl, aw_in 194 (by decide +kernel) rfl, aw_in 7 (by decide +kernel) rfl, by decide⟩
theorem d_Re_init_8 : decode m_Re_init.2.1 8 = .ok (.dup, 1) := by decide +kernel
theorem d_Re_init_9 : decode m_Re_init.2.1 9 = .ok (.invokespecial 11, 3) := by decide +kernel
theorem lk_Re_11 : Cond.methodLink "MaypoleGreen$Reader" 11 m_To_init.1 ∈ aw_T := aw_in 195 (by decide +kernel) rfl
theorem in_To_init : Cond.instanceMethod m_To_init.1 ∈ aw_T := aw_in 196 (by decide +kernel) rfl
theorem d_Re_init_12 : decode m_Re_init.2.1 12 = .ok (.putfield 12, 3) := by decide +kernel
theorem d_Re_init_15 : decode m_Re_init.2.1 15 = .ok (.aload_n 0, 1) := by decide +kernel
theorem d_Re_init_16 : decode m_Re_init.2.1 16 = .ok (.iconst 3, 1) := by decide +kernel
theorem d_Re_init_17 : decode m_Re_init.2.1 17 = .ok (.newarray .int, 2) := by decide +kernel
theorem d_Re_init_19 : decode m_Re_init.2.1 19 = .ok (.putfield 18, 3) := by decide +kernel
theorem d_Re_init_22 : decode m_Re_init.2.1 22 = .ok (.return_, 1) := by decide +kernel
theorem k_Re_init : aw_K m_Re_init 0 := ⟨aw_in 191 (by decide +kernel) rfl, aw_in 6 (by decide +kernel) rfl, ⟨by decide, by decide, by decide +kernel⟩, by decide, by decide +kernel⟩
abbrev m_Mg_init : aw_MI := (⟨"MaypoleGreen", "<init>", "()V"⟩, prog_1_method_1_code, 2, none)
theorem d_Mg_init_0 : decode m_Mg_init.2.1 0 = .ok (.aload_n 0, 1) := by decide +kernel
theorem d_Mg_init_1 : decode m_Mg_init.2.1 1 = .ok (.invokespecial 1, 3) := by decide +kernel
theorem lo_Mg_1 : Cond.methodLink "MaypoleGreen" 1 Lib.objectInit ∈ aw_T := aw_in 27 (by decide +kernel) rfl
theorem d_Mg_init_4 : decode m_Mg_init.2.1 4 = .ok (.aload_n 0, 1) := by decide +kernel
theorem d_Mg_init_5 : decode m_Mg_init.2.1 5 = .ok (.iconst 4, 1) := by decide +kernel
theorem d_Mg_init_6 : decode m_Mg_init.2.1 6 = .ok (.anewarray 9, 3) := by decide +kernel
theorem cq_Mg_9 : Cond.classLink "MaypoleGreen" 9 "MaypoleGreen$Tray" ∈ aw_T := aw_in 30 (by decide +kernel) rfl
theorem d_Mg_init_9 : decode m_Mg_init.2.1 9 = .ok (.putfield 11, 3) := by decide +kernel
theorem d_Mg_init_12 : decode m_Mg_init.2.1 12 = .ok (.iconst 0, 1) := by decide +kernel
theorem d_Mg_init_13 : decode m_Mg_init.2.1 13 = .ok (.istore_n 1, 1) := by decide +kernel
theorem d_Mg_init_14 : decode m_Mg_init.2.1 14 = .ok (.iload_n 1, 1) := by decide +kernel
theorem d_Mg_init_15 : decode m_Mg_init.2.1 15 = .ok (.iconst 4, 1) := by decide +kernel
theorem d_Mg_init_16 : decode m_Mg_init.2.1 16 = .ok (.if_icmp .ge 22, 3) := by decide +kernel
theorem d_Mg_init_19 : decode m_Mg_init.2.1 19 = .ok (.aload_n 0, 1) := by decide +kernel
theorem d_Mg_init_20 : decode m_Mg_init.2.1 20 = .ok (.getfield 11, 3) := by decide +kernel
theorem d_Mg_init_23 : decode m_Mg_init.2.1 23 = .ok (.iload_n 1, 1) := by decide +kernel
theorem d_Mg_init_24 : decode m_Mg_init.2.1 24 = .ok (.new 9, 3) := by decide +kernel
theorem nw_Mg_9 : aw_NW "MaypoleGreen" 9 1 := ⟨cR1, cT1, 4, fun k => cY1.getD k .int, rfl, ci1, cy1, rfl, aw_in 30 (by decide +kernel) rfl, aw_in 32 (by decide +kernel) rfl, aw_in 2 (by decide +kernel) rfl, by decide⟩
theorem d_Mg_init_27 : decode m_Mg_init.2.1 27 = .ok (.dup, 1) := by decide +kernel
theorem d_Mg_init_28 : decode m_Mg_init.2.1 28 = .ok (.invokespecial 15, 3) := by decide +kernel
theorem ln_Mg_15 : Cond.methodLinkNest "MaypoleGreen" 15 m_Tr_init.1 "MaypoleGreen" ∈ tables_1 := List.mem_of_getElem? (i := 33) (by decide +kernel)
theorem in_Tr_init : Cond.instanceMethod m_Tr_init.1 ∈ aw_T := aw_in 34 (by decide +kernel) rfl
theorem d_Mg_init_31 : decode m_Mg_init.2.1 31 = .ok (.aastore, 1) := by decide +kernel
theorem d_Mg_init_32 : decode m_Mg_init.2.1 32 = .ok (.iinc 1 1, 3) := by decide +kernel
theorem d_Mg_init_35 : decode m_Mg_init.2.1 35 = .ok (.goto (-21), 3) := by decide +kernel
theorem d_Mg_init_38 : decode m_Mg_init.2.1 38 = .ok (.aload_n 0, 1) := by decide +kernel
theorem d_Mg_init_39 : decode m_Mg_init.2.1 39 = .ok (.sipush 900, 3) := by decide +kernel
theorem d_Mg_init_42 : decode m_Mg_init.2.1 42 = .ok (.newarray .byte, 2) := by decide +kernel
theorem d_Mg_init_44 : decode m_Mg_init.2.1 44 = .ok (.putfield 16, 3) := by decide +kernel
theorem d_Mg_init_47 : decode m_Mg_init.2.1 47 = .ok (.aload_n 0, 1) := by decide +kernel
theorem d_Mg_init_48 : decode m_Mg_init.2.1 48 = .ok (.iconst (-1), 1) := by decide +kernel
theorem d_Mg_init_49 : decode m_Mg_init.2.1 49 = .ok (.putfield 20, 3) := by decide +kernel
theorem d_Mg_init_52 : decode m_Mg_init.2.1 52 = .ok (.aload_n 0, 1) := by decide +kernel
theorem d_Mg_init_53 : decode m_Mg_init.2.1 53 = .ok (.iconst (-1), 1) := by decide +kernel
theorem d_Mg_init_54 : decode m_Mg_init.2.1 54 = .ok (.putfield 24, 3) := by decide +kernel
theorem d_Mg_init_57 : decode m_Mg_init.2.1 57 = .ok (.aload_n 0, 1) := by decide +kernel
theorem d_Mg_init_58 : decode m_Mg_init.2.1 58 = .ok (.new 27, 3) := by decide +kernel
theorem nw_Mg_27 : aw_NW "MaypoleGreen" 27 2 := ⟨cR2, cT2, 13, fun k => cY2.getD k .int, rfl, ci2, cy2, rfl, aw_in 56 (by decide +kernel) rfl, aw_in 57 (by decide +kernel) rfl, aw_in 3 (by decide +kernel) rfl, by decide⟩
theorem d_Mg_init_61 : decode m_Mg_init.2.1 61 = .ok (.dup, 1) := by decide +kernel
theorem d_Mg_init_62 : decode m_Mg_init.2.1 62 = .ok (.invokespecial 29, 3) := by decide +kernel
theorem lk_Mg_29 : Cond.methodLink "MaypoleGreen" 29 m_Gr_init.1 ∈ aw_T := aw_in 58 (by decide +kernel) rfl
theorem in_Gr_init : Cond.instanceMethod m_Gr_init.1 ∈ aw_T := aw_in 59 (by decide +kernel) rfl
theorem d_Mg_init_65 : decode m_Mg_init.2.1 65 = .ok (.putfield 30, 3) := by decide +kernel
theorem d_Mg_init_68 : decode m_Mg_init.2.1 68 = .ok (.aload_n 0, 1) := by decide +kernel
theorem d_Mg_init_69 : decode m_Mg_init.2.1 69 = .ok (.new 27, 3) := by decide +kernel
theorem d_Mg_init_72 : decode m_Mg_init.2.1 72 = .ok (.dup, 1) := by decide +kernel
theorem d_Mg_init_73 : decode m_Mg_init.2.1 73 = .ok (.invokespecial 29, 3) := by decide +kernel
theorem d_Mg_init_76 : decode m_Mg_init.2.1 76 = .ok (.putfield 34, 3) := by decide +kernel
theorem d_Mg_init_79 : decode m_Mg_init.2.1 79 = .ok (.aload_n 0, 1) := by decide +kernel
theorem d_Mg_init_80 : decode m_Mg_init.2.1 80 = .ok (.iconst 3, 1) := by decide +kernel
theorem d_Mg_init_81 : decode m_Mg_init.2.1 81 = .ok (.anewarray 27, 3) := by decide +kernel
theorem cq_Mg_27 : Cond.classLink "MaypoleGreen" 27 "MaypoleGreen$Green" ∈ aw_T := aw_in 56 (by decide +kernel) rfl
theorem d_Mg_init_84 : decode m_Mg_init.2.1 84 = .ok (.putfield 37, 3) := by decide +kernel
theorem d_Mg_init_87 : decode m_Mg_init.2.1 87 = .ok (.iconst 0, 1) := by decide +kernel
theorem d_Mg_init_88 : decode m_Mg_init.2.1 88 = .ok (.istore_n 1, 1) := by decide +kernel
theorem d_Mg_init_89 : decode m_Mg_init.2.1 89 = .ok (.iload_n 1, 1) := by decide +kernel
theorem d_Mg_init_90 : decode m_Mg_init.2.1 90 = .ok (.iconst 3, 1) := by decide +kernel
theorem d_Mg_init_91 : decode m_Mg_init.2.1 91 = .ok (.if_icmp .ge 22, 3) := by decide +kernel
theorem d_Mg_init_94 : decode m_Mg_init.2.1 94 = .ok (.aload_n 0, 1) := by decide +kernel
theorem d_Mg_init_95 : decode m_Mg_init.2.1 95 = .ok (.getfield 37, 3) := by decide +kernel
theorem d_Mg_init_98 : decode m_Mg_init.2.1 98 = .ok (.iload_n 1, 1) := by decide +kernel
theorem d_Mg_init_99 : decode m_Mg_init.2.1 99 = .ok (.new 27, 3) := by decide +kernel
theorem d_Mg_init_102 : decode m_Mg_init.2.1 102 = .ok (.dup, 1) := by decide +kernel
theorem d_Mg_init_103 : decode m_Mg_init.2.1 103 = .ok (.invokespecial 29, 3) := by decide +kernel
theorem d_Mg_init_106 : decode m_Mg_init.2.1 106 = .ok (.aastore, 1) := by decide +kernel
theorem d_Mg_init_107 : decode m_Mg_init.2.1 107 = .ok (.iinc 1 1, 3) := by decide +kernel
theorem d_Mg_init_110 : decode m_Mg_init.2.1 110 = .ok (.goto (-21), 3) := by decide +kernel
theorem d_Mg_init_113 : decode m_Mg_init.2.1 113 = .ok (.aload_n 0, 1) := by decide +kernel
theorem d_Mg_init_114 : decode m_Mg_init.2.1 114 = .ok (.new 41, 3) := by decide +kernel
theorem nw_Mg_41 : aw_NW "MaypoleGreen" 41 4 := ⟨cR4, cT4, 7, fun k => cY4.getD k .int, rfl, ci4, cy4, rfl, aw_in 185 (by decide +kernel) rfl, aw_in 82 (by decide +kernel) rfl, aw_in 5 (by decide +kernel) rfl, by decide⟩
theorem d_Mg_init_117 : decode m_Mg_init.2.1 117 = .ok (.dup, 1) := by decide +kernel
theorem d_Mg_init_118 : decode m_Mg_init.2.1 118 = .ok (.invokespecial 43, 3) := by decide +kernel
theorem ln_Mg_43 : Cond.methodLinkNest "MaypoleGreen" 43 m_Fe_init.1 "MaypoleGreen" ∈ tables_1 := List.mem_of_getElem? (i := 186) (by decide +kernel)
theorem d_Mg_init_121 : decode m_Mg_init.2.1 121 = .ok (.putfield 44, 3) := by decide +kernel
theorem d_Mg_init_124 : decode m_Mg_init.2.1 124 = .ok (.aload_n 0, 1) := by decide +kernel
theorem d_Mg_init_125 : decode m_Mg_init.2.1 125 = .ok (.new 48, 3) := by decide +kernel
theorem nw_Mg_48 : aw_NW "MaypoleGreen" 48 5 := ⟨cR5, cT5, 10, fun k => cY5.getD k .int, rfl, ci5, cy5, rfl, aw_in 187 (by decide +kernel) rfl, aw_in 188 (by decide +kernel) rfl, aw_in 6 (by decide +kernel) rfl, by decide⟩
theorem d_Mg_init_128 : decode m_Mg_init.2.1 128 = .ok (.dup, 1) := by decide +kernel
theorem d_Mg_init_129 : decode m_Mg_init.2.1 129 = .ok (.invokespecial 50, 3) := by decide +kernel
theorem ln_Mg_50 : Cond.methodLinkNest "MaypoleGreen" 50 m_Re_init.1 "MaypoleGreen" ∈ tables_1 := List.mem_of_getElem? (i := 189) (by decide +kernel)
theorem in_Re_init : Cond.instanceMethod m_Re_init.1 ∈ aw_T := aw_in 190 (by decide +kernel) rfl
theorem d_Mg_init_132 : decode m_Mg_init.2.1 132 = .ok (.putfield 51, 3) := by decide +kernel
theorem d_Mg_init_135 : decode m_Mg_init.2.1 135 = .ok (.aload_n 0, 1) := by decide +kernel
theorem d_Mg_init_136 : decode m_Mg_init.2.1 136 = .ok (.new 55, 3) := by decide +kernel
theorem nw_Mg_55 : aw_NW "MaypoleGreen" 55 7 := ⟨cR7, cT7, 7, fun k => cY7.getD k .int, rfl, ci7, cy7, rfl, aw_in 320 (by decide +kernel) rfl, aw_in 321 (by decide +kernel) rfl, aw_in 12 (by decide +kernel) rfl, by decide⟩
theorem d_Mg_init_139 : decode m_Mg_init.2.1 139 = .ok (.dup, 1) := by decide +kernel
theorem d_Mg_init_140 : decode m_Mg_init.2.1 140 = .ok (.invokespecial 57, 3) := by decide +kernel
theorem ln_Mg_57 : Cond.methodLinkNest "MaypoleGreen" 57 m_Li_init.1 "MaypoleGreen" ∈ tables_1 := List.mem_of_getElem? (i := 322) (by decide +kernel)
theorem in_Li_init : Cond.instanceMethod m_Li_init.1 ∈ aw_T := aw_in 323 (by decide +kernel) rfl
theorem d_Mg_init_143 : decode m_Mg_init.2.1 143 = .ok (.putfield 58, 3) := by decide +kernel
theorem d_Mg_init_146 : decode m_Mg_init.2.1 146 = .ok (.aload_n 0, 1) := by decide +kernel
theorem d_Mg_init_147 : decode m_Mg_init.2.1 147 = .ok (.iconst 5, 1) := by decide +kernel
theorem d_Mg_init_148 : decode m_Mg_init.2.1 148 = .ok (.newarray .int, 2) := by decide +kernel
theorem d_Mg_init_150 : decode m_Mg_init.2.1 150 = .ok (.putfield 62, 3) := by decide +kernel
theorem d_Mg_init_153 : decode m_Mg_init.2.1 153 = .ok (.aload_n 0, 1) := by decide +kernel
theorem d_Mg_init_154 : decode m_Mg_init.2.1 154 = .ok (.new 66, 3) := by decide +kernel
theorem nw_Mg_66 : aw_NW "MaypoleGreen" 66 8 := ⟨cR8, cT8, 2, fun k => cY8.getD k .int, rfl, ci8, cy8, rfl, aw_in 351 (by decide +kernel) rfl, aw_in 352 (by decide +kernel) rfl, aw_in 13 (by decide +kernel) rfl, by decide⟩
theorem d_Mg_init_157 : decode m_Mg_init.2.1 157 = .ok (.dup, 1) := by decide +kernel
theorem d_Mg_init_158 : decode m_Mg_init.2.1 158 = .ok (.invokespecial 68, 3) := by decide +kernel
theorem ln_Mg_68 : Cond.methodLinkNest "MaypoleGreen" 68 m_Ho_init.1 "MaypoleGreen" ∈ tables_1 := List.mem_of_getElem? (i := 353) (by decide +kernel)
theorem in_Ho_init : Cond.instanceMethod m_Ho_init.1 ∈ aw_T := aw_in 354 (by decide +kernel) rfl
theorem d_Mg_init_161 : decode m_Mg_init.2.1 161 = .ok (.putfield 69, 3) := by decide +kernel
theorem d_Mg_init_164 : decode m_Mg_init.2.1 164 = .ok (.aload_n 0, 1) := by decide +kernel
theorem d_Mg_init_165 : decode m_Mg_init.2.1 165 = .ok (.new 73, 3) := by decide +kernel
theorem nw_Mg_73 : aw_NW "MaypoleGreen" 73 9 := ⟨cR9, cT9, 9, fun k => cY9.getD k .int, rfl, ci9, cy9, rfl, aw_in 364 (by decide +kernel) rfl, aw_in 365 (by decide +kernel) rfl, aw_in 14 (by decide +kernel) rfl, by decide⟩
theorem d_Mg_init_168 : decode m_Mg_init.2.1 168 = .ok (.dup, 1) := by decide +kernel
theorem d_Mg_init_169 : decode m_Mg_init.2.1 169 = .ok (.invokespecial 75, 3) := by decide +kernel
theorem ln_Mg_75 : Cond.methodLinkNest "MaypoleGreen" 75 m_Ou_init.1 "MaypoleGreen" ∈ tables_1 := List.mem_of_getElem? (i := 366) (by decide +kernel)
theorem in_Ou_init : Cond.instanceMethod m_Ou_init.1 ∈ aw_T := aw_in 367 (by decide +kernel) rfl
theorem d_Mg_init_172 : decode m_Mg_init.2.1 172 = .ok (.putfield 76, 3) := by decide +kernel
theorem d_Mg_init_175 : decode m_Mg_init.2.1 175 = .ok (.aload_n 0, 1) := by decide +kernel
theorem d_Mg_init_176 : decode m_Mg_init.2.1 176 = .ok (.new 80, 3) := by decide +kernel
theorem nw_Mg_80 : aw_NW "MaypoleGreen" 80 3 := ⟨cR3, cT3, 2, fun k => cY3.getD k .int, rfl, ci3, cy3, rfl, aw_in 400 (by decide +kernel) rfl, aw_in 63 (by decide +kernel) rfl, aw_in 4 (by decide +kernel) rfl, by decide⟩
theorem d_Mg_init_179 : decode m_Mg_init.2.1 179 = .ok (.dup, 1) := by decide +kernel
theorem d_Mg_init_180 : decode m_Mg_init.2.1 180 = .ok (.bipush 80, 2) := by decide +kernel
theorem d_Mg_init_182 : decode m_Mg_init.2.1 182 = .ok (.invokespecial 82, 3) := by decide +kernel
theorem lk_Mg_82 : Cond.methodLink "MaypoleGreen" 82 m_Pl_init.1 ∈ aw_T := aw_in 401 (by decide +kernel) rfl
theorem d_Mg_init_185 : decode m_Mg_init.2.1 185 = .ok (.putfield 85, 3) := by decide +kernel
theorem d_Mg_init_188 : decode m_Mg_init.2.1 188 = .ok (.aload_n 0, 1) := by decide +kernel
theorem d_Mg_init_189 : decode m_Mg_init.2.1 189 = .ok (.new 89, 3) := by decide +kernel
theorem nw_Mg_89 : aw_NW "MaypoleGreen" 89 10 := ⟨cR10, cT10, 4, fun k => cY10.getD k .int, rfl, ci10, cy10, rfl, aw_in 402 (by decide +kernel) rfl, aw_in 403 (by decide +kernel) rfl, aw_in 15 (by decide +kernel) rfl, by decide⟩
theorem d_Mg_init_192 : decode m_Mg_init.2.1 192 = .ok (.dup, 1) := by decide +kernel
theorem d_Mg_init_193 : decode m_Mg_init.2.1 193 = .ok (.invokespecial 91, 3) := by decide +kernel
theorem ln_Mg_91 : Cond.methodLinkNest "MaypoleGreen" 91 m_Ch_init.1 "MaypoleGreen" ∈ tables_1 := List.mem_of_getElem? (i := 404) (by decide +kernel)
theorem in_Ch_init : Cond.instanceMethod m_Ch_init.1 ∈ aw_T := aw_in 405 (by decide +kernel) rfl
theorem d_Mg_init_196 : decode m_Mg_init.2.1 196 = .ok (.putfield 92, 3) := by decide +kernel
theorem d_Mg_init_199 : decode m_Mg_init.2.1 199 = .ok (.return_, 1) := by decide +kernel
theorem k_Mg_init : aw_K m_Mg_init 0 := ⟨aw_in 26 (by decide +kernel) rfl, aw_in 1 (by decide +kernel) rfl, ⟨by decide, by decide, by decide +kernel⟩, by decide, by decide +kernel⟩
def E_Re_init (S : aw_S) (a n : Nat) : aw_S := aw_uR (aw_z (aw_uR (E_To_init (aw_z S n) n (n + 1)) a 2 (some n)) (n + 2)) a 9 (some (n + 2))
set_option maxRecDepth 4000 in
theorem mk_Re_init {l : Launch} {d : Nat} {sh : aw_SH} {S : aw_S} {a n : Nat} (sa : sh[a]? = some (0, 5)) (hn : sh.length = n) : Sp l m_Re_init (d + 6) 3 33 [.ref a] sh S (fun r sh' S' => r = none ∧ sh' = sh ++ [(0, 6), (4, 19), (3, 3)] ∧ S' = E_Re_init S a n) := by
  refine Sp.of k_Re_init (ls := [.ref a]) rfl (Nat.le_of_ble_eq_true rfl) ?_
  refine r_aload_n (pc := 0) d_Re_init_0 (x := a) rfl ?_
  refine r_objInit (pc := 1) d_Re_init_1 lo_Re_3 aw_oi aw_oc (Nat.le_of_ble_eq_true rfl) ?_
  refine r_aload_n (pc := 4) d_Re_init_4 (x := a) rfl ?_
  refine r_newV (n := n) hn (pc := 5) d_Re_init_5 nw_Re_9 (Nat.le_of_ble_eq_true rfl) (Nat.le_of_ble_eq_true rfl) (fun sh1 esh1 => ?_)
  have hn2 := aw_len1 esh1 hn
  have w3 := aw_old esh1 sa
  have w4 := aw_nw1 esh1 hn
  refine r_dup (pc := 8) d_Re_init_8 rfl ?_
  refine r_callI (pc := 9) (k := n) (As := []) (rest := [.ref n, .ref a]) (mc' := 1) (ms' := 19) lk_Re_11 in_To_init rfl rfl d_Re_init_9 k_To_init rfl rfl (Nat.le_of_ble_eq_true rfl) (Nat.le_of_ble_eq_true rfl) (Nat.le_of_ble_eq_true rfl) (Sp.mono (mk_To_init w4 hn2) ?_)
  rintro _ sh5 _ ⟨rfl, esh5, rfl⟩
  have hn7 := aw_len1 esh5 hn2
  have w8 := aw_old esh5 w3
  have w9 := aw_old esh5 w4
  have w10 := aw_nw1 esh5 hn2
  refine r_putRF (pc := 12) d_Re_init_12 f_Re_12 w8 (Or.inl ⟨_, rfl⟩) rfl rfl ?_
  refine r_aload_n (pc := 15) d_Re_init_15 (x := a) rfl ?_
  refine r_iconst (pc := 16) d_Re_init_16 (v := 3) (by decide) ?_
  refine r_newaVi (n := n + 2) hn7 (pc := 17) d_Re_init_17 aw_ac_int (by decide) (N := 3) (by decide) (by decide) (Nat.le_of_ble_eq_true rfl) (Nat.le_of_ble_eq_true rfl) (fun sh11 esh11 => ?_)
  have hn12 := aw_len1 esh11 hn7
  have w13 := aw_old esh11 w8
  have w14 := aw_nw1 esh11 hn7
  refine r_putRF (pc := 19) d_Re_init_19 f_Re_18 w13 (Or.inr ⟨_, rfl⟩) rfl rfl ?_
  exact r_return (pc := 22) d_Re_init_22 rfl rfl (Nat.le_refl _) ⟨rfl, by rw [esh11, esh5, esh1]; simp, rfl⟩
def E_Mg_init (S : aw_S) (_ _ : Nat) : aw_S := aw_uR (E_Ch_init (aw_z (aw_uR (E_Pl_init_80 (aw_z (aw_uR (E_Ou_init (aw_z (aw_uR (E_Ho_init (aw_z (aw_uR (aw_z (aw_uR (E_Li_init (aw_z (aw_uR (E_Re_init (aw_z (aw_uR (E_Fe_init (aw_z (aw_uR (E_Gr_init (aw_z (aw_uR (E_Gr_init (aw_z (aw_uR (E_Gr_init (aw_z (aw_uR (aw_z (aw_uR (E_Gr_init (aw_z (aw_uR (E_Gr_init (aw_z (aw_uI (aw_uI (aw_uR (aw_z (aw_uR (E_Tr_init (aw_z (aw_uR (E_Tr_init (aw_z (aw_uR (E_Tr_init (aw_z (aw_uR (E_Tr_init (aw_z (aw_uR (aw_z S 1) 0 0 (some 1)) 2) 2 3) 1 0 (some 2)) 4) 4 5) 1 1 (some 4)) 6) 6 7) 1 2 (some 6)) 8) 8 9) 1 3 (some 8)) 10) 0 1 (some 10)) 0 4 (-1)) 0 5 (-1)) 11) 11 12) 0 6 (some 11)) 26) 26 27) 0 7 (some 26)) 41) 0 8 (some 41)) 42) 42 43) 41 0 (some 42)) 57) 57 58) 41 1 (some 57)) 72) 72 73) 41 2 (some 72)) 87) 87 88) 0 10 (some 87)) 93) 93 94) 0 11 (some 93)) 97) 97 98) 0 12 (some 97)) 98) 0 13 (some 98)) 99) 99 100) 0 15 (some 99)) 102) 102 103) 0 16 (some 102)) 109) 109 110) 0 17 (some 109)) 111) 111 112) 0 18 (some 111)
set_option maxRecDepth 4000 in
theorem mk_Mg_init {l : Launch} {d : Nat} {sh : aw_SH} {S : aw_S} (sa : sh[0]? = some (0, 0)) (hn : sh.length = 1) : Sp l m_Mg_init (d + 7) 113 2860 [.ref 0] sh S (fun r sh' S' => r = none ∧ sh' = sh ++ [(5, 4), (0, 1), (4, 60), (0, 1), (4, 60), (0, 1), (4, 60), (0, 1), (4, 60), (1, 900), (0, 2), (4, 7), (3, 7), (3, 7), (3, 7), (3, 7), (0, 3), (3, 40), (0, 4), (3, 30), (3, 30), (3, 30), (3, 30), (3, 30), (3, 7), (0, 2), (4, 7), (3, 7), (3, 7), (3, 7), (3, 7), (0, 3), (3, 40), (0, 4), (3, 30), (3, 30), (3, 30), (3, 30), (3, 30), (3, 7), (6, 3), (0, 2), (4, 7), (3, 7), (3, 7), (3, 7), (3, 7), (0, 3), (3, 40), (0, 4), (3, 30), (3, 30), (3, 30), (3, 30), (3, 30), (3, 7), (0, 2), (4, 7), (3, 7), (3, 7), (3, 7), (3, 7), (0, 3), (3, 40), (0, 4), (3, 30), (3, 30), (3, 30), (3, 30), (3, 30), (3, 7), (0, 2), (4, 7), (3, 7), (3, 7), (3, 7), (3, 7), (0, 3), (3, 40), (0, 4), (3, 30), (3, 30), (3, 30), (3, 30), (3, 30), (3, 7), (0, 4), (3, 30), (3, 30), (3, 30), (3, 30), (3, 30), (0, 5), (0, 6), (4, 19), (3, 3), (0, 7), (3, 5), (0, 8), (3, 7), (3, 7), (0, 9), (3, 4), (3, 4), (3, 7), (3, 7), (3, 7), (3, 49), (0, 3), (3, 80), (0, 10), (4, 13), (4, 13)] ∧ S' = E_Mg_init S 0 1) := by
  refine Sp.of k_Mg_init (ls := [.ref 0, .null]) rfl (Nat.le_of_ble_eq_true rfl) ?_
  refine r_aload_n (pc := 0) d_Mg_init_0 (x := 0) rfl ?_
  refine r_objInit (pc := 1) d_Mg_init_1 lo_Mg_1 aw_oi aw_oc (Nat.le_of_ble_eq_true rfl) ?_
  refine r_aload_n (pc := 4) d_Mg_init_4 (x := 0) rfl ?_
  refine r_iconst (pc := 5) d_Mg_init_5 (v := 4) (by decide) ?_
  refine r_anewV5 (n := 1) hn (pc := 6) d_Mg_init_6 cq_Mg_9 (by decide) (N := 4) (by decide) (by decide) (Nat.le_of_ble_eq_true rfl) (Nat.le_of_ble_eq_true rfl) (fun sh1 esh1 => ?_)
  have hn2 := aw_len1 esh1 hn
  have w3 := aw_old esh1 sa
  have w4 := aw_nw1 esh1 hn
  refine r_putRF (pc := 9) d_Mg_init_9 f_Mg_11 w3 (Or.inr ⟨_, rfl⟩) rfl rfl ?_
  refine r_iconst (pc := 12) d_Mg_init_12 (v := 0) (by decide) ?_
  refine r_istore_n (pc := 13) (hk := rfl) (hd := d_Mg_init_13) (hi := by decide) (ls2 := [.ref 0, .int 0]) (h2 := rfl) ?_
  refine r_iload_n (pc := 14) d_Mg_init_14 (x := 0) rfl ?_
  refine r_iconst (pc := 15) d_Mg_init_15 (v := 4) (by decide) ?_
  refine r_icmp_ge (pc := 16) d_Mg_init_16 (tgt := 38) (by decide) (fun q => absurd q (by decide)) (fun _ => ?_)
  refine r_aload_n (pc := 19) d_Mg_init_19 (x := 0) rfl ?_
  refine r_getR (pc := 20) d_Mg_init_20 f_Mg_11 w3 (Or.inr ⟨_, rfl⟩) (r := 1) rfl ?_
  refine r_iload_n (pc := 23) d_Mg_init_23 (x := 0) rfl ?_
  refine r_newV (n := 2) hn2 (pc := 24) d_Mg_init_24 nw_Mg_9 (Nat.le_of_ble_eq_true rfl) (Nat.le_of_ble_eq_true rfl) (fun sh5 esh5 => ?_)
  have hn6 := aw_len1 esh5 hn2
  have w7 := aw_old esh5 w3
  have w8 := aw_old esh5 w4
  have w9 := aw_nw1 esh5 hn2
  refine r_dup (pc := 27) d_Mg_init_27 rfl ?_
  refine r_callIN (pc := 28) (k := 2) (As := []) (rest := [.ref 2, .int 0, .ref 1]) (mc' := 1) (ms' := 60) ln_Mg_15 in_Tr_init rfl rfl d_Mg_init_28 k_Tr_init rfl rfl (Nat.le_of_ble_eq_true rfl) (Nat.le_of_ble_eq_true rfl) (Nat.le_of_ble_eq_true rfl) (Sp.mono (mk_Tr_init w9 hn6) ?_)
  rintro _ sh10 _ ⟨rfl, esh10, rfl⟩
  have hn12 := aw_len1 esh10 hn6
  have w13 := aw_old esh10 w7
  have w14 := aw_old esh10 w8
  have w15 := aw_old esh10 w9
  have w16 := aw_nw1 esh10 hn6
  refine r_aast5 (pc := 31) d_Mg_init_31 w14 (by unfold vp_in; decide) w15 ?_
  refine r_iinc (pc := 32) d_Mg_init_32 (hi := by decide) (x := 0) rfl (v := 1) (by decide) (ls2 := [.ref 0, .int 1]) rfl ?_
  refine r_goto (pc := 35) d_Mg_init_35 (tgt := 14) (by decide) ?_
  refine r_iload_n (pc := 14) d_Mg_init_14 (x := 1) rfl ?_
  refine r_iconst (pc := 15) d_Mg_init_15 (v := 4) (by decide) ?_
  refine r_icmp_ge (pc := 16) d_Mg_init_16 (tgt := 38) (by decide) (fun q => absurd q (by decide)) (fun _ => ?_)
  refine r_aload_n (pc := 19) d_Mg_init_19 (x := 0) rfl ?_
  refine r_getR (pc := 20) d_Mg_init_20 f_Mg_11 w13 (Or.inr ⟨_, rfl⟩) (r := 1) rfl ?_
  refine r_iload_n (pc := 23) d_Mg_init_23 (x := 1) rfl ?_
  refine r_newV (n := 4) hn12 (pc := 24) d_Mg_init_24 nw_Mg_9 (Nat.le_of_ble_eq_true rfl) (Nat.le_of_ble_eq_true rfl) (fun sh17 esh17 => ?_)
  have hn18 := aw_len1 esh17 hn12
  have w19 := aw_old esh17 w13
  have w20 := aw_old esh17 w14
  have w21 := aw_nw1 esh17 hn12
  refine r_dup (pc := 27) d_Mg_init_27 rfl ?_
  refine r_callIN (pc := 28) (k := 4) (As := []) (rest := [.ref 4, .int 1, .ref 1]) (mc' := 1) (ms' := 60) ln_Mg_15 in_Tr_init rfl rfl d_Mg_init_28 k_Tr_init rfl rfl (Nat.le_of_ble_eq_true rfl) (Nat.le_of_ble_eq_true rfl) (Nat.le_of_ble_eq_true rfl) (Sp.mono (mk_Tr_init w21 hn18) ?_)
  rintro _ sh22 _ ⟨rfl, esh22, rfl⟩
  have hn24 := aw_len1 esh22 hn18
  have w25 := aw_old esh22 w19
  have w26 := aw_old esh22 w20
  have w27 := aw_old esh22 w21
  have w28 := aw_nw1 esh22 hn18
  refine r_aast5 (pc := 31) d_Mg_init_31 w26 (by unfold vp_in; decide) w27 ?_
  refine r_iinc (pc := 32) d_Mg_init_32 (hi := by decide) (x := 1) rfl (v := 2) (by decide) (ls2 := [.ref 0, .int 2]) rfl ?_
  refine r_goto (pc := 35) d_Mg_init_35 (tgt := 14) (by decide) ?_
  refine r_iload_n (pc := 14) d_Mg_init_14 (x := 2) rfl ?_
  refine r_iconst (pc := 15) d_Mg_init_15 (v := 4) (by decide) ?_
  refine r_icmp_ge (pc := 16) d_Mg_init_16 (tgt := 38) (by decide) (fun q => absurd q (by decide)) (fun _ => ?_)
  refine r_aload_n (pc := 19) d_Mg_init_19 (x := 0) rfl ?_
  refine r_getR (pc := 20) d_Mg_init_20 f_Mg_11 w25 (Or.inr ⟨_, rfl⟩) (r := 1) rfl ?_
  refine r_iload_n (pc := 23) d_Mg_init_23 (x := 2) rfl ?_
  refine r_newV (n := 6) hn24 (pc := 24) d_Mg_init_24 nw_Mg_9 (Nat.le_of_ble_eq_true rfl) (Nat.le_of_ble_eq_true rfl) (fun sh29 esh29 => ?_)
  have hn30 := aw_len1 esh29 hn24
  have w31 := aw_old esh29 w25
  have w32 := aw_old esh29 w26
  have w33 := aw_nw1 esh29 hn24
  refine r_dup (pc := 27) d_Mg_init_27 rfl ?_
  refine r_callIN (pc := 28) (k := 6) (As := []) (rest := [.ref 6, .int 2, .ref 1]) (mc' := 1) (ms' := 60) ln_Mg_15 in_Tr_init rfl rfl d_Mg_init_28 k_Tr_init rfl rfl (Nat.le_of_ble_eq_true rfl) (Nat.le_of_ble_eq_true rfl) (Nat.le_of_ble_eq_true rfl) (Sp.mono (mk_Tr_init w33 hn30) ?_)
  rintro _ sh34 _ ⟨rfl, esh34, rfl⟩
  have hn36 := aw_len1 esh34 hn30
  have w37 := aw_old esh34 w31
  have w38 := aw_old esh34 w32
  have w39 := aw_old esh34 w33
  have w40 := aw_nw1 esh34 hn30
  refine r_aast5 (pc := 31) d_Mg_init_31 w38 (by unfold vp_in; decide) w39 ?_
  refine r_iinc (pc := 32) d_Mg_init_32 (hi := by decide) (x := 2) rfl (v := 3) (by decide) (ls2 := [.ref 0, .int 3]) rfl ?_
  refine r_goto (pc := 35) d_Mg_init_35 (tgt := 14) (by decide) ?_
  refine r_iload_n (pc := 14) d_Mg_init_14 (x := 3) rfl ?_
  refine r_iconst (pc := 15) d_Mg_init_15 (v := 4) (by decide) ?_
  refine r_icmp_ge (pc := 16) d_Mg_init_16 (tgt := 38) (by decide) (fun q => absurd q (by decide)) (fun _ => ?_)
  refine r_aload_n (pc := 19) d_Mg_init_19 (x := 0) rfl ?_
  refine r_getR (pc := 20) d_Mg_init_20 f_Mg_11 w37 (Or.inr ⟨_, rfl⟩) (r := 1) rfl ?_
  refine r_iload_n (pc := 23) d_Mg_init_23 (x := 3) rfl ?_
  refine r_newV (n := 8) hn36 (pc := 24) d_Mg_init_24 nw_Mg_9 (Nat.le_of_ble_eq_true rfl) (Nat.le_of_ble_eq_true rfl) (fun sh41 esh41 => ?_)
  have hn42 := aw_len1 esh41 hn36
  have w43 := aw_old esh41 w37
  have w44 := aw_old esh41 w38
  have w45 := aw_nw1 esh41 hn36
  refine r_dup (pc := 27) d_Mg_init_27 rfl ?_
  refine r_callIN (pc := 28) (k := 8) (As := []) (rest := [.ref 8, .int 3, .ref 1]) (mc' := 1) (ms' := 60) ln_Mg_15 in_Tr_init rfl rfl d_Mg_init_28 k_Tr_init rfl rfl (Nat.le_of_ble_eq_true rfl) (Nat.le_of_ble_eq_true rfl) (Nat.le_of_ble_eq_true rfl) (Sp.mono (mk_Tr_init w45 hn42) ?_)
  rintro _ sh46 _ ⟨rfl, esh46, rfl⟩
  have hn48 := aw_len1 esh46 hn42
  have w49 := aw_old esh46 w43
  have w50 := aw_old esh46 w44
  have w51 := aw_old esh46 w45
  have w52 := aw_nw1 esh46 hn42
  refine r_aast5 (pc := 31) d_Mg_init_31 w50 (by unfold vp_in; decide) w51 ?_
  refine r_iinc (pc := 32) d_Mg_init_32 (hi := by decide) (x := 3) rfl (v := 4) (by decide) (ls2 := [.ref 0, .int 4]) rfl ?_
  refine r_goto (pc := 35) d_Mg_init_35 (tgt := 14) (by decide) ?_
  refine r_iload_n (pc := 14) d_Mg_init_14 (x := 4) rfl ?_
  refine r_iconst (pc := 15) d_Mg_init_15 (v := 4) (by decide) ?_
  refine r_icmp_ge (pc := 16) d_Mg_init_16 (tgt := 38) (by decide) (fun _ => ?_) (fun q => absurd q (by decide))
  refine r_aload_n (pc := 38) d_Mg_init_38 (x := 0) rfl ?_
  refine r_sipush (pc := 39) d_Mg_init_39 (v := 900) (by decide) ?_
  refine r_newaVb (n := 10) hn48 (pc := 42) d_Mg_init_42 aw_ac_byte (by decide) (N := 900) (by decide) (by decide) (Nat.le_of_ble_eq_true rfl) (Nat.le_of_ble_eq_true rfl) (fun sh53 esh53 => ?_)
  have hn54 := aw_len1 esh53 hn48
  have w55 := aw_old esh53 w49
  have w56 := aw_old esh53 w50
  have w57 := aw_nw1 esh53 hn48
  refine r_putRF (pc := 44) d_Mg_init_44 f_Mg_16 w55 (Or.inr ⟨_, rfl⟩) rfl rfl ?_
  refine r_aload_n (pc := 47) d_Mg_init_47 (x := 0) rfl ?_
  refine r_iconst (pc := 48) d_Mg_init_48 (v := (-1)) (by decide) ?_
  refine r_putI (pc := 49) d_Mg_init_49 f_Mg_20 w55 rfl ?_
  refine r_aload_n (pc := 52) d_Mg_init_52 (x := 0) rfl ?_
  refine r_iconst (pc := 53) d_Mg_init_53 (v := (-1)) (by decide) ?_
  refine r_putI (pc := 54) d_Mg_init_54 f_Mg_24 w55 rfl ?_
  refine r_aload_n (pc := 57) d_Mg_init_57 (x := 0) rfl ?_
  refine r_newV (n := 11) hn54 (pc := 58) d_Mg_init_58 nw_Mg_27 (Nat.le_of_ble_eq_true rfl) (Nat.le_of_ble_eq_true rfl) (fun sh58 esh58 => ?_)
  have hn59 := aw_len1 esh58 hn54
  have w60 := aw_old esh58 w55
  have w61 := aw_old esh58 w56
  have w62 := aw_nw1 esh58 hn54
  refine r_dup (pc := 61) d_Mg_init_61 rfl ?_
  refine r_callI (pc := 62) (k := 11) (As := []) (rest := [.ref 11, .ref 0]) (mc' := 14) (ms' := 241) lk_Mg_29 in_Gr_init rfl rfl d_Mg_init_62 k_Gr_init rfl rfl (Nat.le_of_ble_eq_true rfl) (Nat.le_of_ble_eq_true rfl) (Nat.le_of_ble_eq_true rfl) (Sp.mono (mk_Gr_init w62 hn59) ?_)
  rintro _ sh63 _ ⟨rfl, esh63, rfl⟩
  have hn65 : sh63.length = 26 := aw_lenL esh63 hn59
  have w66 := aw_old esh63 w60
  have w67 := aw_old esh63 w61
  have w68 := aw_old esh63 w62
  refine r_putR (pc := 65) d_Mg_init_65 f_Mg_30 w66 (Or.inl ⟨_, rfl⟩) ?_
  refine r_aload_n (pc := 68) d_Mg_init_68 (x := 0) rfl ?_
  refine r_newV (n := 26) hn65 (pc := 69) d_Mg_init_69 nw_Mg_27 (Nat.le_of_ble_eq_true rfl) (Nat.le_of_ble_eq_true rfl) (fun sh69 esh69 => ?_)
  have hn70 := aw_len1 esh69 hn65
  have w71 := aw_old esh69 w66
  have w72 := aw_old esh69 w67
  have w73 := aw_nw1 esh69 hn65
  refine r_dup (pc := 72) d_Mg_init_72 rfl ?_
  refine r_callI (pc := 73) (k := 26) (As := []) (rest := [.ref 26, .ref 0]) (mc' := 14) (ms' := 241) lk_Mg_29 in_Gr_init rfl rfl d_Mg_init_73 k_Gr_init rfl rfl (Nat.le_of_ble_eq_true rfl) (Nat.le_of_ble_eq_true rfl) (Nat.le_of_ble_eq_true rfl) (Sp.mono (mk_Gr_init w73 hn70) ?_)
  rintro _ sh74 _ ⟨rfl, esh74, rfl⟩
  have hn76 : sh74.length = 41 := aw_lenL esh74 hn70
  have w77 := aw_old esh74 w71
  have w78 := aw_old esh74 w72
  have w79 := aw_old esh74 w73
  refine r_putR (pc := 76) d_Mg_init_76 f_Mg_34 w77 (Or.inl ⟨_, rfl⟩) ?_
  refine r_aload_n (pc := 79) d_Mg_init_79 (x := 0) rfl ?_
  refine r_iconst (pc := 80) d_Mg_init_80 (v := 3) (by decide) ?_
  refine r_anewV6 (n := 41) hn76 (pc := 81) d_Mg_init_81 cq_Mg_27 (by decide) (N := 3) (by decide) (by decide) (Nat.le_of_ble_eq_true rfl) (Nat.le_of_ble_eq_true rfl) (fun sh80 esh80 => ?_)
  have hn81 := aw_len1 esh80 hn76
  have w82 := aw_old esh80 w77
  have w83 := aw_old esh80 w78
  have w84 := aw_nw1 esh80 hn76
  refine r_putRF (pc := 84) d_Mg_init_84 f_Mg_37 w82 (Or.inr ⟨_, rfl⟩) rfl rfl ?_
  refine r_iconst (pc := 87) d_Mg_init_87 (v := 0) (by decide) ?_
  refine r_istore_n (pc := 88) (hk := rfl) (hd := d_Mg_init_88) (hi := by decide) (ls2 := [.ref 0, .int 0]) (h2 := rfl) ?_
  refine r_iload_n (pc := 89) d_Mg_init_89 (x := 0) rfl ?_
  refine r_iconst (pc := 90) d_Mg_init_90 (v := 3) (by decide) ?_
  refine r_icmp_ge (pc := 91) d_Mg_init_91 (tgt := 113) (by decide) (fun q => absurd q (by decide)) (fun _ => ?_)
  refine r_aload_n (pc := 94) d_Mg_init_94 (x := 0) rfl ?_
  refine r_getR (pc := 95) d_Mg_init_95 f_Mg_37 w82 (Or.inr ⟨_, rfl⟩) (r := 41) rfl ?_
  refine r_iload_n (pc := 98) d_Mg_init_98 (x := 0) rfl ?_
  refine r_newV (n := 42) hn81 (pc := 99) d_Mg_init_99 nw_Mg_27 (Nat.le_of_ble_eq_true rfl) (Nat.le_of_ble_eq_true rfl) (fun sh85 esh85 => ?_)
  have hn86 := aw_len1 esh85 hn81
  have w87 := aw_old esh85 w82
  have w88 := aw_old esh85 w83
  have w89 := aw_old esh85 w84
  have w90 := aw_nw1 esh85 hn81
  refine r_dup (pc := 102) d_Mg_init_102 rfl ?_
  refine r_callI (pc := 103) (k := 42) (As := []) (rest := [.ref 42, .int 0, .ref 41]) (mc' := 14) (ms' := 241) lk_Mg_29 in_Gr_init rfl rfl d_Mg_init_103 k_Gr_init rfl rfl (Nat.le_of_ble_eq_true rfl) (Nat.le_of_ble_eq_true rfl) (Nat.le_of_ble_eq_true rfl) (Sp.mono (mk_Gr_init w90 hn86) ?_)
  rintro _ sh91 _ ⟨rfl, esh91, rfl⟩
  have hn93 : sh91.length = 57 := aw_lenL esh91 hn86
  have w94 := aw_old esh91 w87
  have w95 := aw_old esh91 w88
  have w96 := aw_old esh91 w89
  have w97 := aw_old esh91 w90
  refine r_aast6 (pc := 106) d_Mg_init_106 w96 (by unfold vp_in; decide) w97 ?_
  refine r_iinc (pc := 107) d_Mg_init_107 (hi := by decide) (x := 0) rfl (v := 1) (by decide) (ls2 := [.ref 0, .int 1]) rfl ?_
  refine r_goto (pc := 110) d_Mg_init_110 (tgt := 89) (by decide) ?_
  refine r_iload_n (pc := 89) d_Mg_init_89 (x := 1) rfl ?_
  refine r_iconst (pc := 90) d_Mg_init_90 (v := 3) (by decide) ?_
  refine r_icmp_ge (pc := 91) d_Mg_init_91 (tgt := 113) (by decide) (fun q => absurd q (by decide)) (fun _ => ?_)
  refine r_aload_n (pc := 94) d_Mg_init_94 (x := 0) rfl ?_
  refine r_getR (pc := 95) d_Mg_init_95 f_Mg_37 w94 (Or.inr ⟨_, rfl⟩) (r := 41) rfl ?_
  refine r_iload_n (pc := 98) d_Mg_init_98 (x := 1) rfl ?_
  refine r_newV (n := 57) hn93 (pc := 99) d_Mg_init_99 nw_Mg_27 (Nat.le_of_ble_eq_true rfl) (Nat.le_of_ble_eq_true rfl) (fun sh98 esh98 => ?_)
  have hn99 := aw_len1 esh98 hn93
  have w100 := aw_old esh98 w94
  have w101 := aw_old esh98 w95
  have w102 := aw_old esh98 w96
  have w103 := aw_nw1 esh98 hn93
  refine r_dup (pc := 102) d_Mg_init_102 rfl ?_
  refine r_callI (pc := 103) (k := 57) (As := []) (rest := [.ref 57, .int 1, .ref 41]) (mc' := 14) (ms' := 241) lk_Mg_29 in_Gr_init rfl rfl d_Mg_init_103 k_Gr_init rfl rfl (Nat.le_of_ble_eq_true rfl) (Nat.le_of_ble_eq_true rfl) (Nat.le_of_ble_eq_true rfl) (Sp.mono (mk_Gr_init w103 hn99) ?_)
  rintro _ sh104 _ ⟨rfl, esh104, rfl⟩
  have hn106 : sh104.length = 72 := aw_lenL esh104 hn99
  have w107 := aw_old esh104 w100
  have w108 := aw_old esh104 w101
  have w109 := aw_old esh104 w102
  have w110 := aw_old esh104 w103
  refine r_aast6 (pc := 106) d_Mg_init_106 w109 (by unfold vp_in; decide) w110 ?_
  refine r_iinc (pc := 107) d_Mg_init_107 (hi := by decide) (x := 1) rfl (v := 2) (by decide) (ls2 := [.ref 0, .int 2]) rfl ?_
  refine r_goto (pc := 110) d_Mg_init_110 (tgt := 89) (by decide) ?_
  refine r_iload_n (pc := 89) d_Mg_init_89 (x := 2) rfl ?_
  refine r_iconst (pc := 90) d_Mg_init_90 (v := 3) (by decide) ?_
  refine r_icmp_ge (pc := 91) d_Mg_init_91 (tgt := 113) (by decide) (fun q => absurd q (by decide)) (fun _ => ?_)
  refine r_aload_n (pc := 94) d_Mg_init_94 (x := 0) rfl ?_
  refine r_getR (pc := 95) d_Mg_init_95 f_Mg_37 w107 (Or.inr ⟨_, rfl⟩) (r := 41) rfl ?_
  refine r_iload_n (pc := 98) d_Mg_init_98 (x := 2) rfl ?_
  refine r_newV (n := 72) hn106 (pc := 99) d_Mg_init_99 nw_Mg_27 (Nat.le_of_ble_eq_true rfl) (Nat.le_of_ble_eq_true rfl) (fun sh111 esh111 => ?_)
  have hn112 := aw_len1 esh111 hn106
  have w113 := aw_old esh111 w107
  have w114 := aw_old esh111 w108
  have w115 := aw_old esh111 w109
  have w116 := aw_nw1 esh111 hn106
  refine r_dup (pc := 102) d_Mg_init_102 rfl ?_
  refine r_callI (pc := 103) (k := 72) (As := []) (rest := [.ref 72, .int 2, .ref 41]) (mc' := 14) (ms' := 241) lk_Mg_29 in_Gr_init rfl rfl d_Mg_init_103 k_Gr_init rfl rfl (Nat.le_of_ble_eq_true rfl) (Nat.le_of_ble_eq_true rfl) (Nat.le_of_ble_eq_true rfl) (Sp.mono (mk_Gr_init w116 hn112) ?_)
  rintro _ sh117 _ ⟨rfl, esh117, rfl⟩
  have hn119 : sh117.length = 87 := aw_lenL esh117 hn112
  have w120 := aw_old esh117 w113
  have w121 := aw_old esh117 w114
  have w122 := aw_old esh117 w115
  have w123 := aw_old esh117 w116
  refine r_aast6 (pc := 106) d_Mg_init_106 w122 (by unfold vp_in; decide) w123 ?_
  refine r_iinc (pc := 107) d_Mg_init_107 (hi := by decide) (x := 2) rfl (v := 3) (by decide) (ls2 := [.ref 0, .int 3]) rfl ?_
  refine r_goto (pc := 110) d_Mg_init_110 (tgt := 89) (by decide) ?_
  refine r_iload_n (pc := 89) d_Mg_init_89 (x := 3) rfl ?_
  refine r_iconst (pc := 90) d_Mg_init_90 (v := 3) (by decide) ?_
  refine r_icmp_ge (pc := 91) d_Mg_init_91 (tgt := 113) (by decide) (fun _ => ?_) (fun q => absurd q (by decide))
  refine r_aload_n (pc := 113) d_Mg_init_113 (x := 0) rfl ?_
  refine r_newV (n := 87) hn119 (pc := 114) d_Mg_init_114 nw_Mg_41 (Nat.le_of_ble_eq_true rfl) (Nat.le_of_ble_eq_true rfl) (fun sh124 esh124 => ?_)
  have hn125 := aw_len1 esh124 hn119
  have w126 := aw_old esh124 w120
  have w127 := aw_old esh124 w121
  have w128 := aw_old esh124 w122
  have w129 := aw_nw1 esh124 hn119
  refine r_dup (pc := 117) d_Mg_init_117 rfl ?_
  refine r_callIN (pc := 118) (k := 87) (As := []) (rest := [.ref 87, .ref 0]) (mc' := 5) (ms' := 150) ln_Mg_43 in_Fe_init rfl rfl d_Mg_init_118 k_Fe_init rfl rfl (Nat.le_of_ble_eq_true rfl) (Nat.le_of_ble_eq_true rfl) (Nat.le_of_ble_eq_true rfl) (Sp.mono (mk_Fe_init w129 hn125) ?_)
  rintro _ sh130 _ ⟨rfl, esh130, rfl⟩
  have hn132 : sh130.length = 93 := aw_lenL esh130 hn125
  have w133 := aw_old esh130 w126
  have w134 := aw_old esh130 w127
  have w135 := aw_old esh130 w128
  have w136 := aw_old esh130 w129
  refine r_putRF (pc := 121) d_Mg_init_121 f_Mg_44 w133 (Or.inl ⟨_, rfl⟩) rfl rfl ?_
  refine r_aload_n (pc := 124) d_Mg_init_124 (x := 0) rfl ?_
  refine r_newV (n := 93) hn132 (pc := 125) d_Mg_init_125 nw_Mg_48 (Nat.le_of_ble_eq_true rfl) (Nat.le_of_ble_eq_true rfl) (fun sh137 esh137 => ?_)
  have hn138 := aw_len1 esh137 hn132
  have w139 := aw_old esh137 w133
  have w140 := aw_old esh137 w134
  have w141 := aw_old esh137 w135
  have w142 := aw_nw1 esh137 hn132
  refine r_dup (pc := 128) d_Mg_init_128 rfl ?_
  refine r_callIN (pc := 129) (k := 93) (As := []) (rest := [.ref 93, .ref 0]) (mc' := 3) (ms' := 33) ln_Mg_50 in_Re_init rfl rfl d_Mg_init_129 k_Re_init rfl rfl (Nat.le_of_ble_eq_true rfl) (Nat.le_of_ble_eq_true rfl) (Nat.le_of_ble_eq_true rfl) (Sp.mono (mk_Re_init w142 hn138) ?_)
  rintro _ sh143 _ ⟨rfl, esh143, rfl⟩
  have hn145 : sh143.length = 97 := aw_lenL esh143 hn138
  have w146 := aw_old esh143 w139
  have w147 := aw_old esh143 w140
  have w148 := aw_old esh143 w141
  have w149 := aw_old esh143 w142
  refine r_putRF (pc := 132) d_Mg_init_132 f_Mg_51 w146 (Or.inl ⟨_, rfl⟩) rfl rfl ?_
  refine r_aload_n (pc := 135) d_Mg_init_135 (x := 0) rfl ?_
  refine r_newV (n := 97) hn145 (pc := 136) d_Mg_init_136 nw_Mg_55 (Nat.le_of_ble_eq_true rfl) (Nat.le_of_ble_eq_true rfl) (fun sh150 esh150 => ?_)
  have hn151 := aw_len1 esh150 hn145
  have w152 := aw_old esh150 w146
  have w153 := aw_old esh150 w147
  have w154 := aw_old esh150 w148
  have w155 := aw_nw1 esh150 hn145
  refine r_dup (pc := 139) d_Mg_init_139 rfl ?_
  refine r_callIN (pc := 140) (k := 97) (As := []) (rest := [.ref 97, .ref 0]) (mc' := 0) (ms' := 0) ln_Mg_57 in_Li_init rfl rfl d_Mg_init_140 k_Li_init rfl rfl (Nat.le_of_ble_eq_true rfl) (Nat.le_of_ble_eq_true rfl) (Nat.le_of_ble_eq_true rfl) (Sp.mono (mk_Li_init w155 hn151) ?_)
  rintro _ sh156 _ ⟨rfl, esh156, rfl⟩
  rw [List.append_nil] at esh156
  subst esh156
  refine r_putRF (pc := 143) d_Mg_init_143 f_Mg_58 w152 (Or.inl ⟨_, rfl⟩) rfl rfl ?_
  refine r_aload_n (pc := 146) d_Mg_init_146 (x := 0) rfl ?_
  refine r_iconst (pc := 147) d_Mg_init_147 (v := 5) (by decide) ?_
  refine r_newaVi (n := 98) hn151 (pc := 148) d_Mg_init_148 aw_ac_int (by decide) (N := 5) (by decide) (by decide) (Nat.le_of_ble_eq_true rfl) (Nat.le_of_ble_eq_true rfl) (fun sh158 esh158 => ?_)
  have hn159 := aw_len1 esh158 hn151
  have w160 := aw_old esh158 w152
  have w161 := aw_old esh158 w153
  have w162 := aw_old esh158 w154
  have w163 := aw_nw1 esh158 hn151
  refine r_putRF (pc := 150) d_Mg_init_150 f_Mg_62 w160 (Or.inr ⟨_, rfl⟩) rfl rfl ?_
  refine r_aload_n (pc := 153) d_Mg_init_153 (x := 0) rfl ?_
  refine r_newV (n := 99) hn159 (pc := 154) d_Mg_init_154 nw_Mg_66 (Nat.le_of_ble_eq_true rfl) (Nat.le_of_ble_eq_true rfl) (fun sh164 esh164 => ?_)
  have hn165 := aw_len1 esh164 hn159
  have w166 := aw_old esh164 w160
  have w167 := aw_old esh164 w161
  have w168 := aw_old esh164 w162
  have w169 := aw_nw1 esh164 hn159
  refine r_dup (pc := 157) d_Mg_init_157 rfl ?_
  refine r_callIN (pc := 158) (k := 99) (As := []) (rest := [.ref 99, .ref 0]) (mc' := 2) (ms' := 14) ln_Mg_68 in_Ho_init rfl rfl d_Mg_init_158 k_Ho_init rfl rfl (Nat.le_of_ble_eq_true rfl) (Nat.le_of_ble_eq_true rfl) (Nat.le_of_ble_eq_true rfl) (Sp.mono (mk_Ho_init w169 hn165) ?_)
  rintro _ sh170 _ ⟨rfl, esh170, rfl⟩
  have hn172 : sh170.length = 102 := aw_lenL esh170 hn165
  have w173 := aw_old esh170 w166
  have w174 := aw_old esh170 w167
  have w175 := aw_old esh170 w168
  have w176 := aw_old esh170 w169
  refine r_putRF (pc := 161) d_Mg_init_161 f_Mg_69 w173 (Or.inl ⟨_, rfl⟩) rfl rfl ?_
  refine r_aload_n (pc := 164) d_Mg_init_164 (x := 0) rfl ?_
  refine r_newV (n := 102) hn172 (pc := 165) d_Mg_init_165 nw_Mg_73 (Nat.le_of_ble_eq_true rfl) (Nat.le_of_ble_eq_true rfl) (fun sh177 esh177 => ?_)
  have hn178 := aw_len1 esh177 hn172
  have w179 := aw_old esh177 w173
  have w180 := aw_old esh177 w174
  have w181 := aw_old esh177 w175
  have w182 := aw_nw1 esh177 hn172
  refine r_dup (pc := 168) d_Mg_init_168 rfl ?_
  refine r_callIN (pc := 169) (k := 102) (As := []) (rest := [.ref 102, .ref 0]) (mc' := 6) (ms' := 78) ln_Mg_75 in_Ou_init rfl rfl d_Mg_init_169 k_Ou_init rfl rfl (Nat.le_of_ble_eq_true rfl) (Nat.le_of_ble_eq_true rfl) (Nat.le_of_ble_eq_true rfl) (Sp.mono (mk_Ou_init w182 hn178) ?_)
  rintro _ sh183 _ ⟨rfl, esh183, rfl⟩
  have hn185 : sh183.length = 109 := aw_lenL esh183 hn178
  have w186 := aw_old esh183 w179
  have w187 := aw_old esh183 w180
  have w188 := aw_old esh183 w181
  have w189 := aw_old esh183 w182
  refine r_putRF (pc := 172) d_Mg_init_172 f_Mg_76 w186 (Or.inl ⟨_, rfl⟩) rfl rfl ?_
  refine r_aload_n (pc := 175) d_Mg_init_175 (x := 0) rfl ?_
  refine r_newV (n := 109) hn185 (pc := 176) d_Mg_init_176 nw_Mg_80 (Nat.le_of_ble_eq_true rfl) (Nat.le_of_ble_eq_true rfl) (fun sh190 esh190 => ?_)
  have hn191 := aw_len1 esh190 hn185
  have w192 := aw_old esh190 w186
  have w193 := aw_old esh190 w187
  have w194 := aw_old esh190 w188
  have w195 := aw_nw1 esh190 hn185
  refine r_dup (pc := 179) d_Mg_init_179 rfl ?_
  refine r_bipush (pc := 180) d_Mg_init_180 (v := 80) (by decide) ?_
  refine r_callI (pc := 182) (k := 109) (As := [.int 80]) (rest := [.ref 109, .ref 0]) (mc' := 1) (ms' := 80) lk_Mg_82 in_Pl_init rfl rfl d_Mg_init_182 k_Pl_init rfl rfl (Nat.le_of_ble_eq_true rfl) (Nat.le_of_ble_eq_true rfl) (Nat.le_of_ble_eq_true rfl) (Sp.mono (mk_Pl_init_80 w195 hn191) ?_)
  rintro _ sh196 _ ⟨rfl, esh196, rfl⟩
  have hn198 := aw_len1 esh196 hn191
  have w199 := aw_old esh196 w192
  have w200 := aw_old esh196 w193
  have w201 := aw_old esh196 w194
  have w202 := aw_old esh196 w195
  have w203 := aw_nw1 esh196 hn191
  refine r_putRF (pc := 185) d_Mg_init_185 f_Mg_85 w199 (Or.inl ⟨_, rfl⟩) rfl rfl ?_
  refine r_aload_n (pc := 188) d_Mg_init_188 (x := 0) rfl ?_
  refine r_newV (n := 111) hn198 (pc := 189) d_Mg_init_189 nw_Mg_89 (Nat.le_of_ble_eq_true rfl) (Nat.le_of_ble_eq_true rfl) (fun sh204 esh204 => ?_)
  have hn205 := aw_len1 esh204 hn198
  have w206 := aw_old esh204 w199
  have w207 := aw_old esh204 w200
  have w208 := aw_old esh204 w201
  have w209 := aw_nw1 esh204 hn198
  refine r_dup (pc := 192) d_Mg_init_192 rfl ?_
  refine r_callIN (pc := 193) (k := 111) (As := []) (rest := [.ref 111, .ref 0]) (mc' := 2) (ms' := 26) ln_Mg_91 in_Ch_init rfl rfl d_Mg_init_193 k_Ch_init rfl rfl (Nat.le_of_ble_eq_true rfl) (Nat.le_of_ble_eq_true rfl) (Nat.le_of_ble_eq_true rfl) (Sp.mono (mk_Ch_init w209 hn205) ?_)
  rintro _ sh210 _ ⟨rfl, esh210, rfl⟩
  have hn212 : sh210.length = 114 := aw_lenL esh210 hn205
  have w213 := aw_old esh210 w206
  have w214 := aw_old esh210 w207
  have w215 := aw_old esh210 w208
  have w216 := aw_old esh210 w209
  refine r_putRF (pc := 196) d_Mg_init_196 f_Mg_92 w213 (Or.inl ⟨_, rfl⟩) rfl rfl ?_
  exact r_return (pc := 199) d_Mg_init_199 rfl rfl (Nat.le_refl _) ⟨rfl, by rw [esh210, esh204, esh196, esh190, esh183, esh177, esh170, esh164, esh158, esh150, esh143, esh137, esh130, esh124, esh117, esh111, esh104, esh98, esh91, esh85, esh80, esh74, esh69, esh63, esh58, esh53, esh46, esh41, esh34, esh29, esh22, esh17, esh10, esh5, esh1]; simp, rfl⟩
