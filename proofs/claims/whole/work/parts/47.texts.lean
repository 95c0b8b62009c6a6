/-! the two texts and their letters -/
def aw_c0 : List Nat := [111, 100, 100, 115, 32, 108, 111, 110, 103, 32, 100, 97, 110, 99, 101, 114, 32, 99, 111, 108, 111, 117, 114, 32, 112, 97, 115, 115, 32, 111, 118, 101, 114, 32, 117, 110, 100, 101, 114, 32, 98, 97, 99, 107, 32, 119, 101, 97, 118, 101, 32, 112, 97, 105, 110, 116, 32, 97, 110, 121, 32, 119, 104, 101, 110, 32, 104, 111, 109, 101, 32, 97, 116, 32, 115, 104, 111, 119, 115, 32, 112, 108, 97, 105, 116, 32, 108, 111, 111, 112, 32, 101, 110, 100, 32, 115, 116, 111, 112, 32]
def aw_c1 : List Nat := [32, 111, 100, 100, 115, 32, 108, 111, 110, 103, 32, 100, 97, 110, 99, 101, 114, 32, 112, 97, 115, 115, 32, 99, 111, 108, 111, 117, 114, 32, 111, 118, 101, 114, 32, 117, 110, 100, 101, 114, 32, 98, 97, 99, 107, 32, 119, 101, 97, 118, 101, 32, 112, 97, 105, 110, 116, 32, 97, 110, 121, 32, 119, 104, 101, 110, 32, 108, 111, 111, 112, 32, 101, 110, 100, 32, 115, 116, 111, 112, 32, 104, 111, 109, 101, 32, 97, 116, 32, 115, 104, 111, 119, 115, 32, 112, 108, 97, 105, 116, 32]
def aw_cs (w : UInt32) : List Nat := if w = 1 then aw_c0 else aw_c1
theorem cs_len (w : UInt32) : (aw_by w).length = (aw_cs w).length := by unfold aw_by aw_cs; split <;> decide +kernel
theorem cs_le (w : UInt32) : (aw_cs w).length ≤ 101 := by unfold aw_cs; split <;> decide +kernel
theorem cs_at0 : ∀ k, k < 101 → aw_b0.getD k 0 = nI (aw_c0.getD k 0) ∧ aw_c0.getD k 0 < 128 := by decide +kernel
theorem cs_at1 : ∀ k, k < 101 → aw_b1.getD k 0 = nI (aw_c1.getD k 0) ∧ aw_c1.getD k 0 < 128 := by decide +kernel
theorem cs_at (w : UInt32) {k : Nat} (h : k < 101) : (aw_by w).getD k 0 = nI ((aw_cs w).getD k 0) ∧ (aw_cs w).getD k 0 < 128 := by
  unfold aw_by aw_cs
  split
  · exact cs_at0 k h
  · exact cs_at1 k h
section ST
variable {l : Launch} {d : Nat} {sh : aw_SH} {S : aw_S} {w : UInt32}
theorem sp_St_length {P : Int32 → aw_S → Prop} (hw : w = 1 ∨ w = 2) (h : P (nI (aw_cs w).length) S) : Sp l m_St_length (d + 1 + 1) 0 0 [.float w] sh S (gI sh P) := by
  refine e_St_length hw (e_St_coder hw ⟨rfl, ?_⟩)
  rw [sb_shr0, cs_len]
  exact h
theorem sp_St_charAt {P : Int32 → aw_S → Prop} {k : Nat} (hw : w = 1 ∨ w = 2) (hk : k < (aw_cs w).length) (h : P (nI ((aw_cs w).getD k 0)) S) : Sp l m_St_charAt (d + 1 + 1 + 1 + 1) 0 0 [.float w, .int (nI k)] sh S (gI sh P) := by
  have h1 := cs_le w
  obtain ⟨e1, e2⟩ := cs_at w (show k < 101 by omega)
  have ea : nI ((aw_cs w).getD k 0) &&& 255 = nI ((aw_cs w).getD k 0) := by
    rw [pk_andN (by omega) 8 (by decide), Nat.mod_eq_of_lt (by omega)]
  have c0 : ¬ nI k < 0 := nI_pos (by omega)
  have c1 : nI k < nI (aw_by w).length := by rw [cs_len]; exact nI_lt hk (by omega)
  refine e_St_charAt hw (e_St_isLatin1 hw ⟨fun q => absurd q (by decide), fun _ => e_Sl_charAt hw (e_St_checkIndex ⟨e_Pr_checkIndexN ⟨fun q => c0 q, fun _ => ⟨fun _ => ?_, fun q => q c1⟩⟩, e_Pr_checkIndex ⟨fun q => c0 q, fun _ => ⟨fun _ => ?_, fun q => q c1⟩⟩⟩)⟩)
  all_goals
    refine ⟨vp_in_nI (by rw [cs_len]; exact hk) (by rw [cs_len]; omega), ?_⟩
    rw [nI_clamp (by omega), e1, sc_c2, ea]
    have hn : narrow .char (.int (nI ((aw_cs w).getD k 0))) = .int (nI ((aw_cs w).getD k 0)) := (pk_charN (by omega)).1
    exact ⟨hn, hn, h⟩
end ST
/-! the words that Tokens keeps -/
def tk_c (i : Nat) : Nat := aw_c0.getD i 0
def tk_m : Nat → Nat × Int64
  | 0 => (0, 0)
  | i + 1 => if tk_c i = 32 then ((tk_m i).1 + 1, 0) else ((tk_m i).1, ((tk_m i).2 <<< (((5) : Int32).toInt64 &&& 63)) ||| (((nI (tk_c i) - (97 : Int32)) + (1 : Int32)).toInt64))
def tk_S (n : Nat) (S : aw_S) : Nat → aw_S
  | 0 => S
  | i + 1 => if tk_c i = 32 then aw_uL (tk_S n S i) n (tk_m i).1 (tk_m i).2 else tk_S n S i
theorem tk_R (n : Nat) (S : aw_S) : ∀ i, (tk_S n S i).2.2 = S.2.2
  | 0 => rfl
  | i + 1 => by
    unfold tk_S
    split
    · exact tk_R n S i
    · exact tk_R n S i
theorem tk_lt : ∀ i, i < 100 → (tk_m i).1 < 19 := by decide +kernel
def E_To_init (S : aw_S) (a n : Nat) : aw_S := tk_S n (aw_uR (aw_z S n) a 10 (some n)) 100
set_option maxRecDepth 4000 in
theorem mk_To_init {l : Launch} {d : Nat} {sh : aw_SH} {S : aw_S} {a n : Nat} (sa : sh[a]? = some (0, 6)) (hn : sh.length = n) : Sp l m_To_init (d + 1 + 1 + 1 + 1 + 1) 1 19 [.ref a] sh S (fun r sh' S' => r = none ∧ sh' = sh ++ [(4, 19)] ∧ S' = E_To_init S a n) := by
  refine Sp.of k_To_init (ls := [.ref a, .null, .null, .null, .null, .null]) rfl (Nat.le_of_ble_eq_true rfl) ?_
  refine r_aload_n (pc := 0) d_To_init_0 (x := a) rfl ?_
  refine r_objInit (pc := 1) d_To_init_1 lo_To_3 aw_oi aw_oc (Nat.le_of_ble_eq_true rfl) ?_
  refine r_aload_n (pc := 4) d_To_init_4 (x := a) rfl ?_
  refine r_bipush (pc := 5) d_To_init_5 (v := 19) (by decide) ?_
  refine r_newaVl (n := n) hn (pc := 7) d_To_init_7 aw_ac_long (by decide) (N := 19) (by decide) (by decide) (Nat.le_of_ble_eq_true rfl) (Nat.le_of_ble_eq_true rfl) (fun sh1 e1 => ?_)
  have w1 := aw_old e1 sa
  have w2 := aw_nw1 e1 hn
  refine r_putRF (pc := 9) d_To_init_9 f_To_9 w1 (Or.inr ⟨_, rfl⟩) rfl rfl ?_
  refine r_iconst (pc := 12) d_To_init_12 (v := 0) (by decide) ?_
  refine r_istore_n (pc := 13) (hk := rfl) (hd := d_To_init_13) (hi := by decide) (ls2 := [.ref a, .int 0, .null, .null, .null, .null]) (h2 := rfl) ?_
  refine r_lconst (pc := 14) d_To_init_14 (v := 0) (by decide) ?_
  refine r_lstore_n (pc := 15) (hk := rfl) (hd := d_To_init_15) (hi := by decide) (ls2 := [.ref a, .int 0, .long 0, .null, .null, .null]) (h2 := rfl) ?_
  refine r_iconst (pc := 16) d_To_init_16 (v := 0) (by decide) ?_
  refine r_istore (pc := 17) (hd := d_To_init_17) (hi := by decide) (ls2 := [.ref a, .int 0, .long 0, .null, .int 0, .null]) (h2 := rfl) ?_
  have key : ∀ j i, i + j = 100 → AW l m_To_init (d + 1 + 1 + 1 + 1 + 1) 1 19 (fun r sh' S' => r = none ∧ sh' = sh ++ [(4, 19)] ∧ S' = E_To_init S a n) 1 19 19 [.ref a, .int (nI (tk_m i).1), .long (tk_m i).2, .null, .int (nI i), .null] [] sh1 (tk_S n (aw_uR (aw_z S n) a 10 (some n)) i) := by
    intro j
    induction j with
    | zero =>
      intro i hi
      have hi : i = 100 := hi
      subst hi
      refine s_To_init_19 w1 (sp_St_length (Or.inl rfl) ⟨fun _ => ⟨rfl, e1, rfl⟩, fun q => absurd (nI_le (by decide +kernel) (by decide)) q⟩)
    | succ j ih =>
      intro i hi
      have hlt := tk_lt i (by omega)
      have hcs : (aw_cs 1).length = 100 := by decide +kernel
      refine s_To_init_19 w1 (sp_St_length (Or.inl rfl) ⟨fun q => absurd q (nI_ge (by rw [hcs]; omega) (by rw [hcs]; omega)), fun _ => ⟨fun q => absurd q (nI_ge (a := (tk_m i).1) (b := 19) hlt (by omega)), fun _ => sp_St_charAt (Or.inl rfl) (by rw [hcs]; omega) ?_⟩⟩)
      have e2 : (aw_cs 1).getD i 0 = tk_c i := rfl
      rw [e2]
      have hc : tk_c i < 128 := (cs_at0 i (by omega)).2
      have hn1 := ih (i + 1) (by omega)
      refine ⟨fun q v8 ev => ?_, fun q => ⟨n, ?_, 19, w2, vp_in_nI hlt (by omega), ?_⟩⟩
      · have hq : ¬ tk_c i = 32 := fun z => q (by rw [z]; rfl)
        simp only [tk_m, tk_S, if_neg hq] at hn1
        rw [ev, nI_1]
        exact hn1
      · rw [tk_R]
        simp [aw_uR, va_up]
      · have hq : tk_c i = 32 := (nI_inj (by omega) (by omega)).mp (q.trans rfl)
        simp only [tk_m, tk_S, if_pos hq] at hn1
        rw [nI_1, nI_1, nI_clamp (by omega)]
        exact hn1
  exact key 100 0 rfl
