abbrev m_Md_init : aw_MI := (⟨"MaypoleGreenModel", "<init>", "()V"⟩, prog_14_method_1_code, 1, none)
theorem d_Md_init_0 : decode m_Md_init.2.1 0 = .ok (.aload_n 0, 1) := by decide +kernel
theorem d_Md_init_1 : decode m_Md_init.2.1 1 = .ok (.invokespecial 1, 3) := by decide +kernel
theorem lo_Md_1 : Cond.methodLink "MaypoleGreenModel" 1 Lib.objectInit ∈ aw_T := aw_in 1249 (by decide +kernel) rfl
theorem d_Md_init_4 : decode m_Md_init.2.1 4 = .ok (.aload_n 0, 1) := by decide +kernel
theorem d_Md_init_5 : decode m_Md_init.2.1 5 = .ok (.sipush 3864, 3) := by decide +kernel
theorem d_Md_init_8 : decode m_Md_init.2.1 8 = .ok (.newarray .int, 2) := by decide +kernel
theorem d_Md_init_10 : decode m_Md_init.2.1 10 = .ok (.putfield 7, 3) := by decide +kernel
theorem d_Md_init_13 : decode m_Md_init.2.1 13 = .ok (.aload_n 0, 1) := by decide +kernel
theorem d_Md_init_14 : decode m_Md_init.2.1 14 = .ok (.bipush 42, 2) := by decide +kernel
theorem d_Md_init_16 : decode m_Md_init.2.1 16 = .ok (.newarray .long, 2) := by decide +kernel
theorem d_Md_init_18 : decode m_Md_init.2.1 18 = .ok (.putfield 13, 3) := by decide +kernel
theorem d_Md_init_21 : decode m_Md_init.2.1 21 = .ok (.aload_n 0, 1) := by decide +kernel
theorem d_Md_init_22 : decode m_Md_init.2.1 22 = .ok (.lconst 1, 1) := by decide +kernel
theorem d_Md_init_23 : decode m_Md_init.2.1 23 = .ok (.putfield 17, 3) := by decide +kernel
theorem d_Md_init_26 : decode m_Md_init.2.1 26 = .ok (.aload_n 0, 1) := by decide +kernel
theorem d_Md_init_27 : decode m_Md_init.2.1 27 = .ok (.iconst 4, 1) := by decide +kernel
theorem d_Md_init_28 : decode m_Md_init.2.1 28 = .ok (.newarray .int, 2) := by decide +kernel
theorem d_Md_init_30 : decode m_Md_init.2.1 30 = .ok (.putfield 21, 3) := by decide +kernel
theorem d_Md_init_33 : decode m_Md_init.2.1 33 = .ok (.aload_n 0, 1) := by decide +kernel
theorem d_Md_init_34 : decode m_Md_init.2.1 34 = .ok (.iconst 4, 1) := by decide +kernel
theorem d_Md_init_35 : decode m_Md_init.2.1 35 = .ok (.newarray .int, 2) := by decide +kernel
theorem d_Md_init_37 : decode m_Md_init.2.1 37 = .ok (.dup, 1) := by decide +kernel
theorem d_Md_init_38 : decode m_Md_init.2.1 38 = .ok (.iconst 0, 1) := by decide +kernel
theorem d_Md_init_39 : decode m_Md_init.2.1 39 = .ok (.iconst (-1), 1) := by decide +kernel
theorem d_Md_init_40 : decode m_Md_init.2.1 40 = .ok (.iastore, 1) := by decide +kernel
theorem d_Md_init_41 : decode m_Md_init.2.1 41 = .ok (.dup, 1) := by decide +kernel
theorem d_Md_init_42 : decode m_Md_init.2.1 42 = .ok (.iconst 1, 1) := by decide +kernel
theorem d_Md_init_43 : decode m_Md_init.2.1 43 = .ok (.iconst (-1), 1) := by decide +kernel
theorem d_Md_init_44 : decode m_Md_init.2.1 44 = .ok (.iastore, 1) := by decide +kernel
theorem d_Md_init_45 : decode m_Md_init.2.1 45 = .ok (.dup, 1) := by decide +kernel
theorem d_Md_init_46 : decode m_Md_init.2.1 46 = .ok (.iconst 2, 1) := by decide +kernel
theorem d_Md_init_47 : decode m_Md_init.2.1 47 = .ok (.iconst (-1), 1) := by decide +kernel
theorem d_Md_init_48 : decode m_Md_init.2.1 48 = .ok (.iastore, 1) := by decide +kernel
theorem d_Md_init_49 : decode m_Md_init.2.1 49 = .ok (.dup, 1) := by decide +kernel
theorem d_Md_init_50 : decode m_Md_init.2.1 50 = .ok (.iconst 3, 1) := by decide +kernel
theorem d_Md_init_51 : decode m_Md_init.2.1 51 = .ok (.iconst (-1), 1) := by decide +kernel
theorem d_Md_init_52 : decode m_Md_init.2.1 52 = .ok (.iastore, 1) := by decide +kernel
theorem d_Md_init_53 : decode m_Md_init.2.1 53 = .ok (.putfield 24, 3) := by decide +kernel
theorem d_Md_init_56 : decode m_Md_init.2.1 56 = .ok (.aload_n 0, 1) := by decide +kernel
theorem d_Md_init_57 : decode m_Md_init.2.1 57 = .ok (.sipush 240, 3) := by decide +kernel
theorem d_Md_init_60 : decode m_Md_init.2.1 60 = .ok (.newarray .long, 2) := by decide +kernel
theorem d_Md_init_62 : decode m_Md_init.2.1 62 = .ok (.putfield 27, 3) := by decide +kernel
theorem d_Md_init_65 : decode m_Md_init.2.1 65 = .ok (.aload_n 0, 1) := by decide +kernel
theorem d_Md_init_66 : decode m_Md_init.2.1 66 = .ok (.sipush 900, 3) := by decide +kernel
theorem d_Md_init_69 : decode m_Md_init.2.1 69 = .ok (.newarray .byte, 2) := by decide +kernel
theorem d_Md_init_71 : decode m_Md_init.2.1 71 = .ok (.putfield 30, 3) := by decide +kernel
theorem d_Md_init_74 : decode m_Md_init.2.1 74 = .ok (.aload_n 0, 1) := by decide +kernel
theorem d_Md_init_75 : decode m_Md_init.2.1 75 = .ok (.sipush 900, 3) := by decide +kernel
theorem d_Md_init_78 : decode m_Md_init.2.1 78 = .ok (.newarray .byte, 2) := by decide +kernel
theorem d_Md_init_80 : decode m_Md_init.2.1 80 = .ok (.putfield 34, 3) := by decide +kernel
theorem d_Md_init_83 : decode m_Md_init.2.1 83 = .ok (.aload_n 0, 1) := by decide +kernel
theorem d_Md_init_84 : decode m_Md_init.2.1 84 = .ok (.iconst (-1), 1) := by decide +kernel
theorem d_Md_init_85 : decode m_Md_init.2.1 85 = .ok (.putfield 37, 3) := by decide +kernel
theorem d_Md_init_88 : decode m_Md_init.2.1 88 = .ok (.aload_n 0, 1) := by decide +kernel
theorem d_Md_init_89 : decode m_Md_init.2.1 89 = .ok (.iconst (-1), 1) := by decide +kernel
theorem d_Md_init_90 : decode m_Md_init.2.1 90 = .ok (.putfield 41, 3) := by decide +kernel
theorem d_Md_init_93 : decode m_Md_init.2.1 93 = .ok (.aload_n 0, 1) := by decide +kernel
theorem d_Md_init_94 : decode m_Md_init.2.1 94 = .ok (.iconst 3, 1) := by decide +kernel
theorem d_Md_init_95 : decode m_Md_init.2.1 95 = .ok (.newarray .int, 2) := by decide +kernel
theorem d_Md_init_97 : decode m_Md_init.2.1 97 = .ok (.putfield 44, 3) := by decide +kernel
theorem d_Md_init_100 : decode m_Md_init.2.1 100 = .ok (.aload_n 0, 1) := by decide +kernel
theorem d_Md_init_101 : decode m_Md_init.2.1 101 = .ok (.bipush 40, 2) := by decide +kernel
theorem d_Md_init_103 : decode m_Md_init.2.1 103 = .ok (.newarray .int, 2) := by decide +kernel
theorem d_Md_init_105 : decode m_Md_init.2.1 105 = .ok (.putfield 47, 3) := by decide +kernel
theorem d_Md_init_108 : decode m_Md_init.2.1 108 = .ok (.aload_n 0, 1) := by decide +kernel
theorem d_Md_init_109 : decode m_Md_init.2.1 109 = .ok (.bipush 40, 2) := by decide +kernel
theorem d_Md_init_111 : decode m_Md_init.2.1 111 = .ok (.newarray .boolean, 2) := by decide +kernel
theorem d_Md_init_113 : decode m_Md_init.2.1 113 = .ok (.putfield 50, 3) := by decide +kernel
theorem d_Md_init_116 : decode m_Md_init.2.1 116 = .ok (.aload_n 0, 1) := by decide +kernel
theorem d_Md_init_117 : decode m_Md_init.2.1 117 = .ok (.sipush 5040, 3) := by decide +kernel
theorem d_Md_init_120 : decode m_Md_init.2.1 120 = .ok (.newarray .int, 2) := by decide +kernel
theorem d_Md_init_122 : decode m_Md_init.2.1 122 = .ok (.putfield 54, 3) := by decide +kernel
theorem d_Md_init_125 : decode m_Md_init.2.1 125 = .ok (.aload_n 0, 1) := by decide +kernel
theorem d_Md_init_126 : decode m_Md_init.2.1 126 = .ok (.sipush 5040, 3) := by decide +kernel
theorem d_Md_init_129 : decode m_Md_init.2.1 129 = .ok (.newarray .int, 2) := by decide +kernel
theorem d_Md_init_131 : decode m_Md_init.2.1 131 = .ok (.putfield 57, 3) := by decide +kernel
theorem d_Md_init_134 : decode m_Md_init.2.1 134 = .ok (.aload_n 0, 1) := by decide +kernel
theorem d_Md_init_135 : decode m_Md_init.2.1 135 = .ok (.bipush 7, 2) := by decide +kernel
theorem d_Md_init_137 : decode m_Md_init.2.1 137 = .ok (.newarray .int, 2) := by decide +kernel
theorem d_Md_init_139 : decode m_Md_init.2.1 139 = .ok (.putfield 60, 3) := by decide +kernel
theorem d_Md_init_142 : decode m_Md_init.2.1 142 = .ok (.aload_n 0, 1) := by decide +kernel
theorem d_Md_init_143 : decode m_Md_init.2.1 143 = .ok (.bipush 40, 2) := by decide +kernel
theorem d_Md_init_145 : decode m_Md_init.2.1 145 = .ok (.newarray .int, 2) := by decide +kernel
theorem d_Md_init_147 : decode m_Md_init.2.1 147 = .ok (.putfield 63, 3) := by decide +kernel
theorem d_Md_init_150 : decode m_Md_init.2.1 150 = .ok (.aload_n 0, 1) := by decide +kernel
theorem d_Md_init_151 : decode m_Md_init.2.1 151 = .ok (.bipush 40, 2) := by decide +kernel
theorem d_Md_init_153 : decode m_Md_init.2.1 153 = .ok (.newarray .int, 2) := by decide +kernel
theorem d_Md_init_155 : decode m_Md_init.2.1 155 = .ok (.putfield 66, 3) := by decide +kernel
theorem d_Md_init_158 : decode m_Md_init.2.1 158 = .ok (.aload_n 0, 1) := by decide +kernel
theorem d_Md_init_159 : decode m_Md_init.2.1 159 = .ok (.bipush 40, 2) := by decide +kernel
theorem d_Md_init_161 : decode m_Md_init.2.1 161 = .ok (.newarray .boolean, 2) := by decide +kernel
theorem d_Md_init_163 : decode m_Md_init.2.1 163 = .ok (.putfield 69, 3) := by decide +kernel
theorem d_Md_init_166 : decode m_Md_init.2.1 166 = .ok (.aload_n 0, 1) := by decide +kernel
theorem d_Md_init_167 : decode m_Md_init.2.1 167 = .ok (.bipush 40, 2) := by decide +kernel
theorem d_Md_init_169 : decode m_Md_init.2.1 169 = .ok (.newarray .boolean, 2) := by decide +kernel
theorem d_Md_init_171 : decode m_Md_init.2.1 171 = .ok (.putfield 72, 3) := by decide +kernel
theorem d_Md_init_174 : decode m_Md_init.2.1 174 = .ok (.aload_n 0, 1) := by decide +kernel
theorem d_Md_init_175 : decode m_Md_init.2.1 175 = .ok (.iconst 5, 1) := by decide +kernel
theorem d_Md_init_176 : decode m_Md_init.2.1 176 = .ok (.newarray .int, 2) := by decide +kernel
theorem d_Md_init_178 : decode m_Md_init.2.1 178 = .ok (.putfield 75, 3) := by decide +kernel
theorem d_Md_init_181 : decode m_Md_init.2.1 181 = .ok (.aload_n 0, 1) := by decide +kernel
theorem d_Md_init_182 : decode m_Md_init.2.1 182 = .ok (.iconst 4, 1) := by decide +kernel
theorem d_Md_init_183 : decode m_Md_init.2.1 183 = .ok (.newarray .int, 2) := by decide +kernel
theorem d_Md_init_185 : decode m_Md_init.2.1 185 = .ok (.putfield 78, 3) := by decide +kernel
theorem d_Md_init_188 : decode m_Md_init.2.1 188 = .ok (.aload_n 0, 1) := by decide +kernel
theorem d_Md_init_189 : decode m_Md_init.2.1 189 = .ok (.bipush 49, 2) := by decide +kernel
theorem d_Md_init_191 : decode m_Md_init.2.1 191 = .ok (.newarray .int, 2) := by decide +kernel
theorem d_Md_init_193 : decode m_Md_init.2.1 193 = .ok (.putfield 81, 3) := by decide +kernel
theorem d_Md_init_196 : decode m_Md_init.2.1 196 = .ok (.aload_n 0, 1) := by decide +kernel
theorem d_Md_init_197 : decode m_Md_init.2.1 197 = .ok (.iconst 5, 1) := by decide +kernel
theorem d_Md_init_198 : decode m_Md_init.2.1 198 = .ok (.newarray .int, 2) := by decide +kernel
theorem d_Md_init_200 : decode m_Md_init.2.1 200 = .ok (.putfield 84, 3) := by decide +kernel
theorem d_Md_init_203 : decode m_Md_init.2.1 203 = .ok (.aload_n 0, 1) := by decide +kernel
theorem d_Md_init_204 : decode m_Md_init.2.1 204 = .ok (.iconst 5, 1) := by decide +kernel
theorem d_Md_init_205 : decode m_Md_init.2.1 205 = .ok (.newarray .int, 2) := by decide +kernel
theorem d_Md_init_207 : decode m_Md_init.2.1 207 = .ok (.putfield 87, 3) := by decide +kernel
theorem d_Md_init_210 : decode m_Md_init.2.1 210 = .ok (.aload_n 0, 1) := by decide +kernel
theorem d_Md_init_211 : decode m_Md_init.2.1 211 = .ok (.bipush 13, 2) := by decide +kernel
theorem d_Md_init_213 : decode m_Md_init.2.1 213 = .ok (.newarray .long, 2) := by decide +kernel
theorem d_Md_init_215 : decode m_Md_init.2.1 215 = .ok (.putfield 90, 3) := by decide +kernel
theorem d_Md_init_218 : decode m_Md_init.2.1 218 = .ok (.aload_n 0, 1) := by decide +kernel
theorem d_Md_init_219 : decode m_Md_init.2.1 219 = .ok (.bipush 7, 2) := by decide +kernel
theorem d_Md_init_221 : decode m_Md_init.2.1 221 = .ok (.newarray .long, 2) := by decide +kernel
theorem d_Md_init_223 : decode m_Md_init.2.1 223 = .ok (.putfield 93, 3) := by decide +kernel
theorem d_Md_init_226 : decode m_Md_init.2.1 226 = .ok (.aload_n 0, 1) := by decide +kernel
theorem d_Md_init_227 : decode m_Md_init.2.1 227 = .ok (.bipush 7, 2) := by decide +kernel
theorem d_Md_init_229 : decode m_Md_init.2.1 229 = .ok (.newarray .long, 2) := by decide +kernel
theorem d_Md_init_231 : decode m_Md_init.2.1 231 = .ok (.putfield 96, 3) := by decide +kernel
theorem d_Md_init_234 : decode m_Md_init.2.1 234 = .ok (.aload_n 0, 1) := by decide +kernel
theorem d_Md_init_235 : decode m_Md_init.2.1 235 = .ok (.bipush 80, 2) := by decide +kernel
theorem d_Md_init_237 : decode m_Md_init.2.1 237 = .ok (.newarray .int, 2) := by decide +kernel
theorem d_Md_init_239 : decode m_Md_init.2.1 239 = .ok (.putfield 99, 3) := by decide +kernel
theorem d_Md_init_242 : decode m_Md_init.2.1 242 = .ok (.aload_n 0, 1) := by decide +kernel
theorem d_Md_init_243 : decode m_Md_init.2.1 243 = .ok (.iconst 5, 1) := by decide +kernel
theorem d_Md_init_244 : decode m_Md_init.2.1 244 = .ok (.newarray .int, 2) := by decide +kernel
theorem d_Md_init_246 : decode m_Md_init.2.1 246 = .ok (.putfield 102, 3) := by decide +kernel
theorem d_Md_init_249 : decode m_Md_init.2.1 249 = .ok (.aload_n 0, 1) := by decide +kernel
theorem d_Md_init_250 : decode m_Md_init.2.1 250 = .ok (.iconst 5, 1) := by decide +kernel
theorem d_Md_init_251 : decode m_Md_init.2.1 251 = .ok (.newarray .int, 2) := by decide +kernel
theorem d_Md_init_253 : decode m_Md_init.2.1 253 = .ok (.putfield 105, 3) := by decide +kernel
theorem d_Md_init_256 : decode m_Md_init.2.1 256 = .ok (.aload_n 0, 1) := by decide +kernel
theorem d_Md_init_257 : decode m_Md_init.2.1 257 = .ok (.iconst 0, 1) := by decide +kernel
theorem d_Md_init_258 : decode m_Md_init.2.1 258 = .ok (.invokevirtual 108, 3) := by decide +kernel
theorem d_Md_init_261 : decode m_Md_init.2.1 261 = .ok (.return_, 1) := by decide +kernel
theorem k_Md_init : aw_K m_Md_init 0 := ⟨aw_in 1248 (by decide +kernel) rfl, aw_in 16 (by decide +kernel) rfl, ⟨by decide, by decide, by decide +kernel⟩, by decide, by decide +kernel⟩
/-! plain: a slot of the reference's numbers as a green of nobody has it -/
def pl_Z (A : Nat) (S : aw_S) (slot : Nat) : Nat → aw_S
  | 0 => S
  | k + 1 => aw_uI (pl_Z A S slot k) A (slot + k) 0
def pl_E (A : Nat) (S : aw_S) (slot : Nat) : aw_S := aw_uI (aw_uI (aw_uI (pl_Z A S slot 552) A (slot + 1) 2) A (slot + 2) 12) A (slot + 5) (-1)
theorem pl_R (A : Nat) (S : aw_S) (slot : Nat) : ∀ k, (pl_Z A S slot k).2.2 = S.2.2
  | 0 => rfl
  | k + 1 => pl_R A S slot k
theorem sp_Md_plain {l : Launch} {d : Nat} {sh : aw_SH} {S : aw_S} {P : aw_S → Prop} {a A slot : Nat} (sa : sh[a]? = some (0, 11)) (hr : S.2.2 a 0 = some A) (sr : sh[A]? = some (3, 3864)) (hs : slot + 552 ≤ 3864) (h : P (pl_E A S slot)) : Sp l m_Md_plain (d + 1) 0 0 [.ref a, .int (nI slot)] sh S (gV sh P) := by
  refine e_Md_plain sa ?_
  have key : ∀ j k, k + j = 552 → AW l m_Md_plain (d + 1) 0 0 (gV sh P) 0 0 2 [.ref a, .int (nI slot), .int (nI k)] [] sh (pl_Z A S slot k) := by
    intro j
    induction j with
    | zero =>
      intro k hk
      have hk : k = 552 := hk
      subst hk
      refine s_Md_plain_2 sa ⟨fun _ => ⟨A, by rw [pl_R]; exact hr, 3864, sr, ?_, ?_, ?_, ?_⟩, fun q => absurd (nI_le (a := 552) (b := 552) (Nat.le_refl _) (by decide)) q⟩
      · rw [show (1 : Int32) = nI 1 from rfl, nI_add]; exact vp_in_nI (by omega) (by omega)
      · rw [show (2 : Int32) = nI 2 from rfl, nI_add]; exact vp_in_nI (by omega) (by omega)
      · rw [show (5 : Int32) = nI 5 from rfl, nI_add]; exact vp_in_nI (by omega) (by omega)
      · rw [show (nI slot + (1 : Int32)).toNatClampNeg = slot + 1 from by rw [show (1 : Int32) = nI 1 from rfl, nI_add, nI_clamp (by omega)],
          show (nI slot + (2 : Int32)).toNatClampNeg = slot + 2 from by rw [show (2 : Int32) = nI 2 from rfl, nI_add, nI_clamp (by omega)],
          show (nI slot + (5 : Int32)).toNatClampNeg = slot + 5 from by rw [show (5 : Int32) = nI 5 from rfl, nI_add, nI_clamp (by omega)]]
        exact h
    | succ j ih =>
      intro k hk
      have hn := ih (k + 1) (by omega)
      refine s_Md_plain_2 sa ⟨fun q => absurd q (nI_ge (a := k) (b := 552) (by omega) (by decide)), fun _ => ⟨A, by rw [pl_R]; exact hr, 3864, sr, ?_, ?_⟩⟩
      · rw [nI_add]; exact vp_in_nI (by omega) (by omega)
      · rw [nI_add, nI_clamp (by omega), nI_1]
        exact hn
  exact key 552 0 rfl
def E_Md_init (S : aw_S) (_ _ : Nat) : aw_S := pl_E 115 (aw_uR (aw_z (aw_uR (aw_z (aw_uR (aw_z (aw_uR (aw_z (aw_uR (aw_z (aw_uR (aw_z (aw_uR (aw_z (aw_uR (aw_z (aw_uR (aw_z (aw_uR (aw_z (aw_uR (aw_z (aw_uR (aw_z (aw_uR (aw_z (aw_uR (aw_z (aw_uR (aw_z (aw_uR (aw_z (aw_uR (aw_z (aw_uR (aw_z (aw_uR (aw_z (aw_uR (aw_z (aw_uR (aw_z (aw_uI (aw_uI (aw_uR (aw_z (aw_uR (aw_z (aw_uR (aw_z (aw_uR (aw_uI (aw_uI (aw_uI (aw_uI (aw_z (aw_uR (aw_z (aw_uL (aw_uR (aw_z (aw_uR (aw_z S 115) 114 0 (some 115)) 116) 114 1 (some 116)) 114 4 1) 117) 114 5 (some 117)) 118) 118 0 (-1)) 118 1 (-1)) 118 2 (-1)) 118 3 (-1)) 114 6 (some 118)) 119) 114 7 (some 119)) 120) 114 8 (some 120)) 121) 114 9 (some 121)) 114 16 (-1)) 114 17 (-1)) 122) 114 21 (some 122)) 123) 114 24 (some 123)) 124) 114 25 (some 124)) 125) 114 28 (some 125)) 126) 114 29 (some 126)) 127) 114 30 (some 127)) 128) 114 31 (some 128)) 129) 114 32 (some 129)) 130) 114 34 (some 130)) 131) 114 35 (some 131)) 132) 114 36 (some 132)) 133) 114 37 (some 133)) 134) 114 38 (some 134)) 135) 114 40 (some 135)) 136) 114 41 (some 136)) 137) 114 42 (some 137)) 138) 114 43 (some 138)) 139) 114 44 (some 139)) 140) 114 47 (some 140)) 141) 114 48 (some 141)) 142) 114 49 (some 142)) 0
set_option maxRecDepth 8000 in
theorem mk_Md_init {l : Launch} {d : Nat} {sh : aw_SH} {S : aw_S} (sa : sh[114]? = some (0, 11)) (hn : sh.length = 115) : Sp l m_Md_init (d + 2) 28 16469 [.ref 114] sh S (fun r sh' S' => r = none ∧ sh' = sh ++ [(3, 3864), (4, 42), (3, 4), (3, 4), (4, 240), (1, 900), (1, 900), (3, 3), (3, 40), (2, 40), (3, 5040), (3, 5040), (3, 7), (3, 40), (3, 40), (2, 40), (2, 40), (3, 5), (3, 4), (3, 49), (3, 5), (3, 5), (4, 13), (4, 7), (4, 7), (3, 80), (3, 5), (3, 5)] ∧ S' = E_Md_init S 0 0) := by
  refine Sp.of k_Md_init (ls := [.ref 114]) rfl (Nat.le_of_ble_eq_true rfl) ?_
  refine r_aload_n (pc := 0) d_Md_init_0 (x := 114) rfl ?_
  refine r_objInit (pc := 1) d_Md_init_1 lo_Md_1 aw_oi aw_oc (Nat.le_of_ble_eq_true rfl) ?_
  refine r_aload_n (pc := 4) d_Md_init_4 (x := 114) rfl ?_
  refine r_sipush (pc := 5) d_Md_init_5 (v := 3864) (by decide) ?_
  refine r_newaVi (n := 115) hn (pc := 8) d_Md_init_8 aw_ac_int (by decide) (N := 3864) (by decide) (by decide) (Nat.le_of_ble_eq_true rfl) (Nat.le_of_ble_eq_true rfl) (fun sh1 esh1 => ?_)
  have hn2 := aw_len1 esh1 hn
  have w3 := aw_old esh1 sa
  have w4 := aw_nw1 esh1 hn
  refine r_putRF (pc := 10) d_Md_init_10 f_Md_7 w3 (Or.inr ⟨_, rfl⟩) rfl rfl ?_
  refine r_aload_n (pc := 13) d_Md_init_13 (x := 114) rfl ?_
  refine r_bipush (pc := 14) d_Md_init_14 (v := 42) (by decide) ?_
  refine r_newaVl (n := 116) hn2 (pc := 16) d_Md_init_16 aw_ac_long (by decide) (N := 42) (by decide) (by decide) (Nat.le_of_ble_eq_true rfl) (Nat.le_of_ble_eq_true rfl) (fun sh5 esh5 => ?_)
  have hn6 := aw_len1 esh5 hn2
  have w7 := aw_old esh5 w3
  have w8 := aw_nw1 esh5 hn2
  refine r_putRF (pc := 18) d_Md_init_18 f_Md_13 w7 (Or.inr ⟨_, rfl⟩) rfl rfl ?_
  refine r_aload_n (pc := 21) d_Md_init_21 (x := 114) rfl ?_
  refine r_lconst (pc := 22) d_Md_init_22 (v := 1) (by decide) ?_
  refine r_putL (pc := 23) d_Md_init_23 f_Md_17 w7 rfl ?_
  refine r_aload_n (pc := 26) d_Md_init_26 (x := 114) rfl ?_
  refine r_iconst (pc := 27) d_Md_init_27 (v := 4) (by decide) ?_
  refine r_newaVi (n := 117) hn6 (pc := 28) d_Md_init_28 aw_ac_int (by decide) (N := 4) (by decide) (by decide) (Nat.le_of_ble_eq_true rfl) (Nat.le_of_ble_eq_true rfl) (fun sh9 esh9 => ?_)
  have hn10 := aw_len1 esh9 hn6
  have w11 := aw_old esh9 w7
  have w12 := aw_nw1 esh9 hn6
  refine r_putRF (pc := 30) d_Md_init_30 f_Md_21 w11 (Or.inr ⟨_, rfl⟩) rfl rfl ?_
  refine r_aload_n (pc := 33) d_Md_init_33 (x := 114) rfl ?_
  refine r_iconst (pc := 34) d_Md_init_34 (v := 4) (by decide) ?_
  refine r_newaVi (n := 118) hn10 (pc := 35) d_Md_init_35 aw_ac_int (by decide) (N := 4) (by decide) (by decide) (Nat.le_of_ble_eq_true rfl) (Nat.le_of_ble_eq_true rfl) (fun sh13 esh13 => ?_)
  have hn14 := aw_len1 esh13 hn10
  have w15 := aw_old esh13 w11
  have w16 := aw_nw1 esh13 hn10
  refine r_dup (pc := 37) d_Md_init_37 rfl ?_
  refine r_iconst (pc := 38) d_Md_init_38 (v := 0) (by decide) ?_
  refine r_iconst (pc := 39) d_Md_init_39 (v := (-1)) (by decide) ?_
  refine r_iast (pc := 40) d_Md_init_40 w16 (by unfold vp_in; decide) ?_
  refine r_dup (pc := 41) d_Md_init_41 rfl ?_
  refine r_iconst (pc := 42) d_Md_init_42 (v := 1) (by decide) ?_
  refine r_iconst (pc := 43) d_Md_init_43 (v := (-1)) (by decide) ?_
  refine r_iast (pc := 44) d_Md_init_44 w16 (by unfold vp_in; decide) ?_
  refine r_dup (pc := 45) d_Md_init_45 rfl ?_
  refine r_iconst (pc := 46) d_Md_init_46 (v := 2) (by decide) ?_
  refine r_iconst (pc := 47) d_Md_init_47 (v := (-1)) (by decide) ?_
  refine r_iast (pc := 48) d_Md_init_48 w16 (by unfold vp_in; decide) ?_
  refine r_dup (pc := 49) d_Md_init_49 rfl ?_
  refine r_iconst (pc := 50) d_Md_init_50 (v := 3) (by decide) ?_
  refine r_iconst (pc := 51) d_Md_init_51 (v := (-1)) (by decide) ?_
  refine r_iast (pc := 52) d_Md_init_52 w16 (by unfold vp_in; decide) ?_
  refine r_putRF (pc := 53) d_Md_init_53 f_Md_24 w15 (Or.inr ⟨_, rfl⟩) rfl rfl ?_
  refine r_aload_n (pc := 56) d_Md_init_56 (x := 114) rfl ?_
  refine r_sipush (pc := 57) d_Md_init_57 (v := 240) (by decide) ?_
  refine r_newaVl (n := 119) hn14 (pc := 60) d_Md_init_60 aw_ac_long (by decide) (N := 240) (by decide) (by decide) (Nat.le_of_ble_eq_true rfl) (Nat.le_of_ble_eq_true rfl) (fun sh17 esh17 => ?_)
  have hn18 := aw_len1 esh17 hn14
  have w19 := aw_old esh17 w15
  have w20 := aw_nw1 esh17 hn14
  refine r_putRF (pc := 62) d_Md_init_62 f_Md_27 w19 (Or.inr ⟨_, rfl⟩) rfl rfl ?_
  refine r_aload_n (pc := 65) d_Md_init_65 (x := 114) rfl ?_
  refine r_sipush (pc := 66) d_Md_init_66 (v := 900) (by decide) ?_
  refine r_newaVb (n := 120) hn18 (pc := 69) d_Md_init_69 aw_ac_byte (by decide) (N := 900) (by decide) (by decide) (Nat.le_of_ble_eq_true rfl) (Nat.le_of_ble_eq_true rfl) (fun sh21 esh21 => ?_)
  have hn22 := aw_len1 esh21 hn18
  have w23 := aw_old esh21 w19
  have w24 := aw_nw1 esh21 hn18
  refine r_putRF (pc := 71) d_Md_init_71 f_Md_30 w23 (Or.inr ⟨_, rfl⟩) rfl rfl ?_
  refine r_aload_n (pc := 74) d_Md_init_74 (x := 114) rfl ?_
  refine r_sipush (pc := 75) d_Md_init_75 (v := 900) (by decide) ?_
  refine r_newaVb (n := 121) hn22 (pc := 78) d_Md_init_78 aw_ac_byte (by decide) (N := 900) (by decide) (by decide) (Nat.le_of_ble_eq_true rfl) (Nat.le_of_ble_eq_true rfl) (fun sh25 esh25 => ?_)
  have hn26 := aw_len1 esh25 hn22
  have w27 := aw_old esh25 w23
  have w28 := aw_nw1 esh25 hn22
  refine r_putRF (pc := 80) d_Md_init_80 f_Md_34 w27 (Or.inr ⟨_, rfl⟩) rfl rfl ?_
  refine r_aload_n (pc := 83) d_Md_init_83 (x := 114) rfl ?_
  refine r_iconst (pc := 84) d_Md_init_84 (v := (-1)) (by decide) ?_
  refine r_putI (pc := 85) d_Md_init_85 f_Md_37 w27 rfl ?_
  refine r_aload_n (pc := 88) d_Md_init_88 (x := 114) rfl ?_
  refine r_iconst (pc := 89) d_Md_init_89 (v := (-1)) (by decide) ?_
  refine r_putI (pc := 90) d_Md_init_90 f_Md_41 w27 rfl ?_
  refine r_aload_n (pc := 93) d_Md_init_93 (x := 114) rfl ?_
  refine r_iconst (pc := 94) d_Md_init_94 (v := 3) (by decide) ?_
  refine r_newaVi (n := 122) hn26 (pc := 95) d_Md_init_95 aw_ac_int (by decide) (N := 3) (by decide) (by decide) (Nat.le_of_ble_eq_true rfl) (Nat.le_of_ble_eq_true rfl) (fun sh29 esh29 => ?_)
  have hn30 := aw_len1 esh29 hn26
  have w31 := aw_old esh29 w27
  have w32 := aw_nw1 esh29 hn26
  refine r_putRF (pc := 97) d_Md_init_97 f_Md_44 w31 (Or.inr ⟨_, rfl⟩) rfl rfl ?_
  refine r_aload_n (pc := 100) d_Md_init_100 (x := 114) rfl ?_
  refine r_bipush (pc := 101) d_Md_init_101 (v := 40) (by decide) ?_
  refine r_newaVi (n := 123) hn30 (pc := 103) d_Md_init_103 aw_ac_int (by decide) (N := 40) (by decide) (by decide) (Nat.le_of_ble_eq_true rfl) (Nat.le_of_ble_eq_true rfl) (fun sh33 esh33 => ?_)
  have hn34 := aw_len1 esh33 hn30
  have w35 := aw_old esh33 w31
  have w36 := aw_nw1 esh33 hn30
  refine r_putRF (pc := 105) d_Md_init_105 f_Md_47 w35 (Or.inr ⟨_, rfl⟩) rfl rfl ?_
  refine r_aload_n (pc := 108) d_Md_init_108 (x := 114) rfl ?_
  refine r_bipush (pc := 109) d_Md_init_109 (v := 40) (by decide) ?_
  refine r_newaVz (n := 124) hn34 (pc := 111) d_Md_init_111 aw_ac_boolean (by decide) (N := 40) (by decide) (by decide) (Nat.le_of_ble_eq_true rfl) (Nat.le_of_ble_eq_true rfl) (fun sh37 esh37 => ?_)
  have hn38 := aw_len1 esh37 hn34
  have w39 := aw_old esh37 w35
  have w40 := aw_nw1 esh37 hn34
  refine r_putRF (pc := 113) d_Md_init_113 f_Md_50 w39 (Or.inr ⟨_, rfl⟩) rfl rfl ?_
  refine r_aload_n (pc := 116) d_Md_init_116 (x := 114) rfl ?_
  refine r_sipush (pc := 117) d_Md_init_117 (v := 5040) (by decide) ?_
  refine r_newaVi (n := 125) hn38 (pc := 120) d_Md_init_120 aw_ac_int (by decide) (N := 5040) (by decide) (by decide) (Nat.le_of_ble_eq_true rfl) (Nat.le_of_ble_eq_true rfl) (fun sh41 esh41 => ?_)
  have hn42 := aw_len1 esh41 hn38
  have w43 := aw_old esh41 w39
  have w44 := aw_nw1 esh41 hn38
  refine r_putRF (pc := 122) d_Md_init_122 f_Md_54 w43 (Or.inr ⟨_, rfl⟩) rfl rfl ?_
  refine r_aload_n (pc := 125) d_Md_init_125 (x := 114) rfl ?_
  refine r_sipush (pc := 126) d_Md_init_126 (v := 5040) (by decide) ?_
  refine r_newaVi (n := 126) hn42 (pc := 129) d_Md_init_129 aw_ac_int (by decide) (N := 5040) (by decide) (by decide) (Nat.le_of_ble_eq_true rfl) (Nat.le_of_ble_eq_true rfl) (fun sh45 esh45 => ?_)
  have hn46 := aw_len1 esh45 hn42
  have w47 := aw_old esh45 w43
  have w48 := aw_nw1 esh45 hn42
  refine r_putRF (pc := 131) d_Md_init_131 f_Md_57 w47 (Or.inr ⟨_, rfl⟩) rfl rfl ?_
  refine r_aload_n (pc := 134) d_Md_init_134 (x := 114) rfl ?_
  refine r_bipush (pc := 135) d_Md_init_135 (v := 7) (by decide) ?_
  refine r_newaVi (n := 127) hn46 (pc := 137) d_Md_init_137 aw_ac_int (by decide) (N := 7) (by decide) (by decide) (Nat.le_of_ble_eq_true rfl) (Nat.le_of_ble_eq_true rfl) (fun sh49 esh49 => ?_)
  have hn50 := aw_len1 esh49 hn46
  have w51 := aw_old esh49 w47
  have w52 := aw_nw1 esh49 hn46
  refine r_putRF (pc := 139) d_Md_init_139 f_Md_60 w51 (Or.inr ⟨_, rfl⟩) rfl rfl ?_
  refine r_aload_n (pc := 142) d_Md_init_142 (x := 114) rfl ?_
  refine r_bipush (pc := 143) d_Md_init_143 (v := 40) (by decide) ?_
  refine r_newaVi (n := 128) hn50 (pc := 145) d_Md_init_145 aw_ac_int (by decide) (N := 40) (by decide) (by decide) (Nat.le_of_ble_eq_true rfl) (Nat.le_of_ble_eq_true rfl) (fun sh53 esh53 => ?_)
  have hn54 := aw_len1 esh53 hn50
  have w55 := aw_old esh53 w51
  have w56 := aw_nw1 esh53 hn50
  refine r_putRF (pc := 147) d_Md_init_147 f_Md_63 w55 (Or.inr ⟨_, rfl⟩) rfl rfl ?_
  refine r_aload_n (pc := 150) d_Md_init_150 (x := 114) rfl ?_
  refine r_bipush (pc := 151) d_Md_init_151 (v := 40) (by decide) ?_
  refine r_newaVi (n := 129) hn54 (pc := 153) d_Md_init_153 aw_ac_int (by decide) (N := 40) (by decide) (by decide) (Nat.le_of_ble_eq_true rfl) (Nat.le_of_ble_eq_true rfl) (fun sh57 esh57 => ?_)
  have hn58 := aw_len1 esh57 hn54
  have w59 := aw_old esh57 w55
  have w60 := aw_nw1 esh57 hn54
  refine r_putRF (pc := 155) d_Md_init_155 f_Md_66 w59 (Or.inr ⟨_, rfl⟩) rfl rfl ?_
  refine r_aload_n (pc := 158) d_Md_init_158 (x := 114) rfl ?_
  refine r_bipush (pc := 159) d_Md_init_159 (v := 40) (by decide) ?_
  refine r_newaVz (n := 130) hn58 (pc := 161) d_Md_init_161 aw_ac_boolean (by decide) (N := 40) (by decide) (by decide) (Nat.le_of_ble_eq_true rfl) (Nat.le_of_ble_eq_true rfl) (fun sh61 esh61 => ?_)
  have hn62 := aw_len1 esh61 hn58
  have w63 := aw_old esh61 w59
  have w64 := aw_nw1 esh61 hn58
  refine r_putRF (pc := 163) d_Md_init_163 f_Md_69 w63 (Or.inr ⟨_, rfl⟩) rfl rfl ?_
  refine r_aload_n (pc := 166) d_Md_init_166 (x := 114) rfl ?_
  refine r_bipush (pc := 167) d_Md_init_167 (v := 40) (by decide) ?_
  refine r_newaVz (n := 131) hn62 (pc := 169) d_Md_init_169 aw_ac_boolean (by decide) (N := 40) (by decide) (by decide) (Nat.le_of_ble_eq_true rfl) (Nat.le_of_ble_eq_true rfl) (fun sh65 esh65 => ?_)
  have hn66 := aw_len1 esh65 hn62
  have w67 := aw_old esh65 w63
  have w68 := aw_nw1 esh65 hn62
  refine r_putRF (pc := 171) d_Md_init_171 f_Md_72 w67 (Or.inr ⟨_, rfl⟩) rfl rfl ?_
  refine r_aload_n (pc := 174) d_Md_init_174 (x := 114) rfl ?_
  refine r_iconst (pc := 175) d_Md_init_175 (v := 5) (by decide) ?_
  refine r_newaVi (n := 132) hn66 (pc := 176) d_Md_init_176 aw_ac_int (by decide) (N := 5) (by decide) (by decide) (Nat.le_of_ble_eq_true rfl) (Nat.le_of_ble_eq_true rfl) (fun sh69 esh69 => ?_)
  have hn70 := aw_len1 esh69 hn66
  have w71 := aw_old esh69 w67
  have w72 := aw_nw1 esh69 hn66
  refine r_putRF (pc := 178) d_Md_init_178 f_Md_75 w71 (Or.inr ⟨_, rfl⟩) rfl rfl ?_
  refine r_aload_n (pc := 181) d_Md_init_181 (x := 114) rfl ?_
  refine r_iconst (pc := 182) d_Md_init_182 (v := 4) (by decide) ?_
  refine r_newaVi (n := 133) hn70 (pc := 183) d_Md_init_183 aw_ac_int (by decide) (N := 4) (by decide) (by decide) (Nat.le_of_ble_eq_true rfl) (Nat.le_of_ble_eq_true rfl) (fun sh73 esh73 => ?_)
  have hn74 := aw_len1 esh73 hn70
  have w75 := aw_old esh73 w71
  have w76 := aw_nw1 esh73 hn70
  refine r_putRF (pc := 185) d_Md_init_185 f_Md_78 w75 (Or.inr ⟨_, rfl⟩) rfl rfl ?_
  refine r_aload_n (pc := 188) d_Md_init_188 (x := 114) rfl ?_
  refine r_bipush (pc := 189) d_Md_init_189 (v := 49) (by decide) ?_
  refine r_newaVi (n := 134) hn74 (pc := 191) d_Md_init_191 aw_ac_int (by decide) (N := 49) (by decide) (by decide) (Nat.le_of_ble_eq_true rfl) (Nat.le_of_ble_eq_true rfl) (fun sh77 esh77 => ?_)
  have hn78 := aw_len1 esh77 hn74
  have w79 := aw_old esh77 w75
  have w80 := aw_nw1 esh77 hn74
  refine r_putRF (pc := 193) d_Md_init_193 f_Md_81 w79 (Or.inr ⟨_, rfl⟩) rfl rfl ?_
  refine r_aload_n (pc := 196) d_Md_init_196 (x := 114) rfl ?_
  refine r_iconst (pc := 197) d_Md_init_197 (v := 5) (by decide) ?_
  refine r_newaVi (n := 135) hn78 (pc := 198) d_Md_init_198 aw_ac_int (by decide) (N := 5) (by decide) (by decide) (Nat.le_of_ble_eq_true rfl) (Nat.le_of_ble_eq_true rfl) (fun sh81 esh81 => ?_)
  have hn82 := aw_len1 esh81 hn78
  have w83 := aw_old esh81 w79
  have w84 := aw_nw1 esh81 hn78
  refine r_putRF (pc := 200) d_Md_init_200 f_Md_84 w83 (Or.inr ⟨_, rfl⟩) rfl rfl ?_
  refine r_aload_n (pc := 203) d_Md_init_203 (x := 114) rfl ?_
  refine r_iconst (pc := 204) d_Md_init_204 (v := 5) (by decide) ?_
  refine r_newaVi (n := 136) hn82 (pc := 205) d_Md_init_205 aw_ac_int (by decide) (N := 5) (by decide) (by decide) (Nat.le_of_ble_eq_true rfl) (Nat.le_of_ble_eq_true rfl) (fun sh85 esh85 => ?_)
  have hn86 := aw_len1 esh85 hn82
  have w87 := aw_old esh85 w83
  have w88 := aw_nw1 esh85 hn82
  refine r_putRF (pc := 207) d_Md_init_207 f_Md_87 w87 (Or.inr ⟨_, rfl⟩) rfl rfl ?_
  refine r_aload_n (pc := 210) d_Md_init_210 (x := 114) rfl ?_
  refine r_bipush (pc := 211) d_Md_init_211 (v := 13) (by decide) ?_
  refine r_newaVl (n := 137) hn86 (pc := 213) d_Md_init_213 aw_ac_long (by decide) (N := 13) (by decide) (by decide) (Nat.le_of_ble_eq_true rfl) (Nat.le_of_ble_eq_true rfl) (fun sh89 esh89 => ?_)
  have hn90 := aw_len1 esh89 hn86
  have w91 := aw_old esh89 w87
  have w92 := aw_nw1 esh89 hn86
  refine r_putRF (pc := 215) d_Md_init_215 f_Md_90 w91 (Or.inr ⟨_, rfl⟩) rfl rfl ?_
  refine r_aload_n (pc := 218) d_Md_init_218 (x := 114) rfl ?_
  refine r_bipush (pc := 219) d_Md_init_219 (v := 7) (by decide) ?_
  refine r_newaVl (n := 138) hn90 (pc := 221) d_Md_init_221 aw_ac_long (by decide) (N := 7) (by decide) (by decide) (Nat.le_of_ble_eq_true rfl) (Nat.le_of_ble_eq_true rfl) (fun sh93 esh93 => ?_)
  have hn94 := aw_len1 esh93 hn90
  have w95 := aw_old esh93 w91
  have w96 := aw_nw1 esh93 hn90
  refine r_putRF (pc := 223) d_Md_init_223 f_Md_93 w95 (Or.inr ⟨_, rfl⟩) rfl rfl ?_
  refine r_aload_n (pc := 226) d_Md_init_226 (x := 114) rfl ?_
  refine r_bipush (pc := 227) d_Md_init_227 (v := 7) (by decide) ?_
  refine r_newaVl (n := 139) hn94 (pc := 229) d_Md_init_229 aw_ac_long (by decide) (N := 7) (by decide) (by decide) (Nat.le_of_ble_eq_true rfl) (Nat.le_of_ble_eq_true rfl) (fun sh97 esh97 => ?_)
  have hn98 := aw_len1 esh97 hn94
  have w99 := aw_old esh97 w95
  have w100 := aw_nw1 esh97 hn94
  refine r_putRF (pc := 231) d_Md_init_231 f_Md_96 w99 (Or.inr ⟨_, rfl⟩) rfl rfl ?_
  refine r_aload_n (pc := 234) d_Md_init_234 (x := 114) rfl ?_
  refine r_bipush (pc := 235) d_Md_init_235 (v := 80) (by decide) ?_
  refine r_newaVi (n := 140) hn98 (pc := 237) d_Md_init_237 aw_ac_int (by decide) (N := 80) (by decide) (by decide) (Nat.le_of_ble_eq_true rfl) (Nat.le_of_ble_eq_true rfl) (fun sh101 esh101 => ?_)
  have hn102 := aw_len1 esh101 hn98
  have w103 := aw_old esh101 w99
  have w104 := aw_nw1 esh101 hn98
  refine r_putRF (pc := 239) d_Md_init_239 f_Md_99 w103 (Or.inr ⟨_, rfl⟩) rfl rfl ?_
  refine r_aload_n (pc := 242) d_Md_init_242 (x := 114) rfl ?_
  refine r_iconst (pc := 243) d_Md_init_243 (v := 5) (by decide) ?_
  refine r_newaVi (n := 141) hn102 (pc := 244) d_Md_init_244 aw_ac_int (by decide) (N := 5) (by decide) (by decide) (Nat.le_of_ble_eq_true rfl) (Nat.le_of_ble_eq_true rfl) (fun sh105 esh105 => ?_)
  have hn106 := aw_len1 esh105 hn102
  have w107 := aw_old esh105 w103
  have w108 := aw_nw1 esh105 hn102
  refine r_putRF (pc := 246) d_Md_init_246 f_Md_102 w107 (Or.inr ⟨_, rfl⟩) rfl rfl ?_
  refine r_aload_n (pc := 249) d_Md_init_249 (x := 114) rfl ?_
  refine r_iconst (pc := 250) d_Md_init_250 (v := 5) (by decide) ?_
  refine r_newaVi (n := 142) hn106 (pc := 251) d_Md_init_251 aw_ac_int (by decide) (N := 5) (by decide) (by decide) (Nat.le_of_ble_eq_true rfl) (Nat.le_of_ble_eq_true rfl) (fun sh109 esh109 => ?_)
  have hn110 := aw_len1 esh109 hn106
  have w111 := aw_old esh109 w107
  have w112 := aw_nw1 esh109 hn106
  refine r_putRF (pc := 253) d_Md_init_253 f_Md_105 w111 (Or.inr ⟨_, rfl⟩) rfl rfl ?_
  refine r_aload_n (pc := 256) d_Md_init_256 (x := 114) rfl ?_
  refine r_iconst (pc := 257) d_Md_init_257 (v := 0) (by decide) ?_
  have hAT : sh109[115]? = some (3, 3864) := by rw [esh109, esh105, esh101, esh97, esh93, esh89, esh85, esh81, esh77, esh73, esh69, esh65, esh61, esh57, esh53, esh49, esh45, esh41, esh37, esh33, esh29, esh25, esh21, esh17, esh13, esh9, esh5, esh1]; simp [hn]
  refine r_callV (pc := 258) (k := 114) (As := [.int 0]) (rest := []) (mc' := 0) (ms' := 0) lk_Md_108 in_Md_plain se_Md_plain w111 rfl d_Md_init_258 k_Md_plain rfl rfl (Nat.le_of_ble_eq_true rfl) (Nat.le_of_ble_eq_true rfl) (Nat.le_of_ble_eq_true rfl) (Sp.mono (sp_Md_plain (slot := 0) w111 rfl hAT (by decide) rfl) ?_)
  rintro _ _ S1 ⟨q1, u1, h1⟩
  subst u1
  rw [q1]
  exact r_return (pc := 261) d_Md_init_261 rfl rfl (Nat.le_refl _) ⟨rfl, by rw [esh109, esh105, esh101, esh97, esh93, esh89, esh85, esh81, esh77, esh73, esh69, esh65, esh61, esh57, esh53, esh49, esh45, esh41, esh37, esh33, esh29, esh25, esh21, esh17, esh13, esh9, esh5, esh1]; simp, h1.symm⟩
