set_option maxRecDepth 4000 in
theorem e_Pr_checkIndex {l : Launch} {d : Nat} {sh : aw_SH} {S : aw_S} {P : Int32 → aw_S → Prop} {p0 : Int32} {p1 : Int32} {p2 : UInt32} (h : ((p0 < 0 → False) ∧ (¬ p0 < 0 → ((p0 < p1 → P p0 S) ∧ (¬ p0 < p1 → False))))) : Sp l m_Pr_checkIndex (d + 1) 0 0 [.int p0, .int p1, .float p2] sh S (gI sh P) := by
  refine Sp.of k_Pr_checkIndex (ls := [.int p0, .int p1, .float p2]) rfl (Nat.le_of_ble_eq_true rfl) ?_
  refine r_iload_n (pc := 0) d_Pr_checkIndex_0 (x := p0) rfl ?_
  refine r_if_lt (pc := 1) d_Pr_checkIndex_1 (tgt := 9) (by decide) (fun c1 => ?_) (fun c1 => ?_)
  · replace h := h.1 c1
    refine r_aload_nX (pc := 9) d_Pr_checkIndex_9 (x := p2) rfl ?_
    refine r_iload_n (pc := 10) d_Pr_checkIndex_10 (x := p0) rfl ?_
    refine r_iload_n (pc := 11) d_Pr_checkIndex_11 (x := p1) rfl ?_
    exact h.elim
  · replace h := h.2 c1
    refine r_iload_n (pc := 4) d_Pr_checkIndex_4 (x := p0) rfl ?_
    refine r_iload_n (pc := 5) d_Pr_checkIndex_5 (x := p1) rfl ?_
    refine r_icmp_lt (pc := 6) d_Pr_checkIndex_6 (tgt := 16) (by decide) (fun c2 => ?_) (fun c2 => ?_)
    · replace h := h.1 c2
      refine r_iload_n (pc := 16) d_Pr_checkIndex_16 (x := p0) rfl ?_
      exact r_ireturn (pc := 17) d_Pr_checkIndex_17 rfl rfl (Nat.le_refl _) ⟨rfl, _, rfl, h⟩
    · replace h := h.2 c2
      refine r_aload_nX (pc := 9) d_Pr_checkIndex_9 (x := p2) rfl ?_
      refine r_iload_n (pc := 10) d_Pr_checkIndex_10 (x := p0) rfl ?_
      refine r_iload_n (pc := 11) d_Pr_checkIndex_11 (x := p1) rfl ?_
      exact h.elim
set_option maxRecDepth 4000 in
theorem e_Pr_checkIndexN {l : Launch} {d : Nat} {sh : aw_SH} {S : aw_S} {P : Int32 → aw_S → Prop} {p0 : Int32} {p1 : Int32}  (h : ((p0 < 0 → False) ∧ (¬ p0 < 0 → ((p0 < p1 → P p0 S) ∧ (¬ p0 < p1 → False))))) : Sp l m_Pr_checkIndex (d + 1) 0 0 [.int p0, .int p1, .null] sh S (gI sh P) := by
  refine Sp.of k_Pr_checkIndex (ls := [.int p0, .int p1, .null]) rfl (Nat.le_of_ble_eq_true rfl) ?_
  refine r_iload_n (pc := 0) d_Pr_checkIndex_0 (x := p0) rfl ?_
  refine r_if_lt (pc := 1) d_Pr_checkIndex_1 (tgt := 9) (by decide) (fun c1 => ?_) (fun c1 => ?_)
  · replace h := h.1 c1
    exact h.elim
  · replace h := h.2 c1
    refine r_iload_n (pc := 4) d_Pr_checkIndex_4 (x := p0) rfl ?_
    refine r_iload_n (pc := 5) d_Pr_checkIndex_5 (x := p1) rfl ?_
    refine r_icmp_lt (pc := 6) d_Pr_checkIndex_6 (tgt := 16) (by decide) (fun c2 => ?_) (fun c2 => ?_)
    · replace h := h.1 c2
      refine r_iload_n (pc := 16) d_Pr_checkIndex_16 (x := p0) rfl ?_
      exact r_ireturn (pc := 17) d_Pr_checkIndex_17 rfl rfl (Nat.le_refl _) ⟨rfl, _, rfl, h⟩
    · replace h := h.2 c2
      exact h.elim
set_option maxRecDepth 4000 in
theorem e_St_length {l : Launch} {d : Nat} {sh : aw_SH} {S : aw_S} {P : Int32 → aw_S → Prop} {a : UInt32} (ha : a = 1 ∨ a = 2) (h : Sp l m_St_coder d 0 0 [.float a] sh S (gI sh (fun x2 S1 => P ((nI (aw_by a).length) >>> (x2 &&& 31)) S1))) : Sp l m_St_length (d + 1) 0 0 [.float a] sh S (gI sh P) := by
  refine Sp.of k_St_length (ls := [.float a]) rfl (Nat.le_of_ble_eq_true rfl) ?_
  refine r_aload_nX (pc := 0) d_St_length_0 (x := a) rfl ?_
  refine r_strV (pc := 1) d_St_length_1 ha rfl ?_
  refine r_strL (pc := 4) d_St_length_4 ha ?_
  refine r_aload_nX (pc := 5) d_St_length_5 (x := a) rfl ?_
  refine r_callX (pc := 6) (k := 0) (w := a) (As := []) (rest := [.int (nI (aw_by a).length)]) (mc' := 0) (ms' := 0) lk_St_335 in_St_coder se_St_coder ha rfl d_St_length_6 k_St_coder rfl rfl (Nat.le_of_ble_eq_true rfl) (by decide) (by decide) (Sp.mono h ?_)
  rintro rS1 shS1 S1 ⟨qS1, x2, uS1, h⟩
  subst uS1
  rw [qS1]
  refine r_ishr (pc := 9) d_St_length_9 ?_
  exact r_ireturn (pc := 10) d_St_length_10 rfl rfl (Nat.le_refl _) ⟨rfl, _, rfl, h⟩
set_option maxRecDepth 4000 in
theorem e_St_coder {l : Launch} {d : Nat} {sh : aw_SH} {S : aw_S} {P : Int32 → aw_S → Prop} {a : UInt32} (ha : a = 1 ∨ a = 2) (h : (narrow .byte (.int 0) = .int 0 ∧ P 0 S)) : Sp l m_St_coder (d + 1) 0 0 [.float a] sh S (gI sh P) := by
  refine Sp.of k_St_coder (ls := [.float a]) rfl (Nat.le_of_ble_eq_true rfl) ?_
  refine r_gsC (pc := 0) d_St_coder_0 rfl ?_
  refine r_if_eq (pc := 3) d_St_coder_3 (tgt := 13) (by decide) (fun q => absurd q (by decide)) (fun _ => ?_)
  refine r_aload_nX (pc := 6) d_St_coder_6 (x := a) rfl ?_
  refine r_strC (pc := 7) d_St_coder_7 ha rfl ?_
  refine r_goto (pc := 10) d_St_coder_10 (tgt := 14) (by decide) ?_
  obtain ⟨g2, h⟩ := h
  exact r_zreturn (pc := 14) d_St_coder_14 rfl g2 rfl (Nat.le_refl _) ⟨rfl, _, rfl, h⟩
set_option maxRecDepth 4000 in
theorem e_St_charAt {l : Launch} {d : Nat} {sh : aw_SH} {S : aw_S} {P : Int32 → aw_S → Prop} {a : UInt32} {p0 : Int32} (ha : a = 1 ∨ a = 2) (h : Sp l m_St_isLatin1 d 0 0 [.float a] sh S (gI sh (fun x2 S1 => ((x2 = 0 → Sp l m_Su_charAt d 0 0 [.float (a + 2), .int p0] sh S1 (gI sh (fun x5 S4 => (narrow .char (.int x5) = .int x5 ∧ P x5 S4)))) ∧ (¬ x2 = 0 → Sp l m_Sl_charAt d 0 0 [.float (a + 2), .int p0] sh S1 (gI sh (fun x8 S7 => (narrow .char (.int x8) = .int x8 ∧ P x8 S7)))))))) : Sp l m_St_charAt (d + 1) 0 0 [.float a, .int p0] sh S (gI sh P) := by
  refine Sp.of k_St_charAt (ls := [.float a, .int p0]) rfl (Nat.le_of_ble_eq_true rfl) ?_
  refine r_aload_nX (pc := 0) d_St_charAt_0 (x := a) rfl ?_
  refine r_callX (pc := 1) (k := 0) (w := a) (As := []) (rest := []) (mc' := 0) (ms' := 0) lk_St_492 in_St_isLatin1 se_St_isLatin1 ha rfl d_St_charAt_1 k_St_isLatin1 rfl rfl (Nat.le_of_ble_eq_true rfl) (by decide) (by decide) (Sp.mono h ?_)
  rintro rS1 shS1 S1 ⟨qS1, x2, uS1, h⟩
  subst uS1
  rw [qS1]
  refine r_if_eq (pc := 4) d_St_charAt_4 (tgt := 16) (by decide) (fun c3 => ?_) (fun c3 => ?_)
  · replace h := h.1 c3
    refine r_aload_nX (pc := 16) d_St_charAt_16 (x := a) rfl ?_
    refine r_strV (pc := 17) d_St_charAt_17 ha rfl ?_
    refine r_iload_n (pc := 20) d_St_charAt_20 (x := p0) rfl ?_
    refine r_callS (pc := 21) (k := 0) (As := [.float (a + 2), .int p0]) (rest := []) (mc' := 0) (ms' := 0) lk_St_498 st_Su_charAt d_St_charAt_21 k_Su_charAt rfl rfl (Nat.le_of_ble_eq_true rfl) (by decide) (by decide) (Sp.mono h ?_)
    rintro rS4 shS4 S4 ⟨qS4, x5, uS4, h⟩
    subst uS4
    rw [qS4]
    obtain ⟨g6, h⟩ := h
    exact r_zreturn (pc := 24) d_St_charAt_24 rfl g6 rfl (Nat.le_refl _) ⟨rfl, _, rfl, h⟩
  · replace h := h.2 c3
    refine r_aload_nX (pc := 7) d_St_charAt_7 (x := a) rfl ?_
    refine r_strV (pc := 8) d_St_charAt_8 ha rfl ?_
    refine r_iload_n (pc := 11) d_St_charAt_11 (x := p0) rfl ?_
    refine r_callS (pc := 12) (k := 0) (As := [.float (a + 2), .int p0]) (rest := []) (mc' := 0) (ms' := 0) lk_St_495 st_Sl_charAt d_St_charAt_12 k_Sl_charAt rfl rfl (Nat.le_of_ble_eq_true rfl) (by decide) (by decide) (Sp.mono h ?_)
    rintro rS7 shS7 S7 ⟨qS7, x8, uS7, h⟩
    subst uS7
    rw [qS7]
    obtain ⟨g9, h⟩ := h
    exact r_zreturn (pc := 15) d_St_charAt_15 rfl g9 rfl (Nat.le_refl _) ⟨rfl, _, rfl, h⟩
set_option maxRecDepth 4000 in
theorem e_St_isLatin1 {l : Launch} {d : Nat} {sh : aw_SH} {S : aw_S} {P : Int32 → aw_S → Prop} {a : UInt32} (ha : a = 1 ∨ a = 2) (h : P 1 S) : Sp l m_St_isLatin1 (d + 1) 0 0 [.float a] sh S (gI sh P) := by
  refine Sp.of k_St_isLatin1 (ls := [.float a]) rfl (Nat.le_of_ble_eq_true rfl) ?_
  refine r_gsC (pc := 0) d_St_isLatin1_0 rfl ?_
  refine r_if_eq (pc := 3) d_St_isLatin1_3 (tgt := 17) (by decide) (fun q => absurd q (by decide)) (fun _ => ?_)
  refine r_aload_nX (pc := 6) d_St_isLatin1_6 (x := a) rfl ?_
  refine r_strC (pc := 7) d_St_isLatin1_7 ha rfl ?_
  refine r_if_ne (pc := 10) d_St_isLatin1_10 (tgt := 17) (by decide) (fun q => absurd q (by decide)) (fun _ => ?_)
  refine r_iconst (pc := 13) d_St_isLatin1_13 (v := 1) (by decide) ?_
  refine r_goto (pc := 14) d_St_isLatin1_14 (tgt := 18) (by decide) ?_
  exact r_zreturn (pc := 18) d_St_isLatin1_18 (v := 1) rfl (by decide) rfl (Nat.le_refl _) ⟨rfl, _, rfl, h⟩
set_option maxRecDepth 4000 in
theorem e_Sl_charAt {l : Launch} {d : Nat} {sh : aw_SH} {S : aw_S} {P : Int32 → aw_S → Prop} {p0 : UInt32} {p1 : Int32} (hp0 : p0 = 1 ∨ p0 = 2) (h : Sp l m_St_checkIndex d 0 0 [.int p1, .int (nI (aw_by p0).length)] sh S (gV sh (fun S1 => vp_in p1 (aw_by p0).length ∧ (narrow .char (.int (((((aw_by p0).getD (p1 : Int32).toNatClampNeg 0) &&& (255 : Int32)).toUInt32 % 65536).toInt32)) = .int (((((aw_by p0).getD (p1 : Int32).toNatClampNeg 0) &&& (255 : Int32)).toUInt32 % 65536).toInt32) ∧ P (((((aw_by p0).getD (p1 : Int32).toNatClampNeg 0) &&& (255 : Int32)).toUInt32 % 65536).toInt32) S1)))) : Sp l m_Sl_charAt (d + 1) 0 0 [.float (p0 + 2), .int p1] sh S (gI sh P) := by
  refine Sp.of k_Sl_charAt (ls := [.float (p0 + 2), .int p1]) rfl (Nat.le_of_ble_eq_true rfl) ?_
  refine r_iload_n (pc := 0) d_Sl_charAt_0 (x := p1) rfl ?_
  refine r_aload_nX (pc := 1) d_Sl_charAt_1 (x := (p0 + 2)) rfl ?_
  refine r_strL (pc := 2) d_Sl_charAt_2 hp0 ?_
  refine r_callS (pc := 3) (k := 0) (As := [.int p1, .int (nI (aw_by p0).length)]) (rest := []) (mc' := 0) (ms' := 0) lk_Sl_9 st_St_checkIndex d_Sl_charAt_3 k_St_checkIndex rfl rfl (Nat.le_of_ble_eq_true rfl) (by decide) (by decide) (Sp.mono h ?_)
  rintro rS1 shS1 S1 ⟨qS1, uS1, h⟩
  subst uS1
  rw [qS1]
  refine r_aload_nX (pc := 6) d_Sl_charAt_6 (x := (p0 + 2)) rfl ?_
  refine r_iload_n (pc := 7) d_Sl_charAt_7 (x := p1) rfl ?_
  obtain ⟨g2, h⟩ := h
  refine r_strB (pc := 8) d_Sl_charAt_8 hp0 g2 ?_
  refine r_sipush (pc := 9) d_Sl_charAt_9 (v := 255) (by decide) ?_
  refine r_iand (pc := 12) d_Sl_charAt_12 ?_
  refine r_i2c (pc := 13) d_Sl_charAt_13 ?_
  obtain ⟨g3, h⟩ := h
  exact r_zreturn (pc := 14) d_Sl_charAt_14 rfl g3 rfl (Nat.le_refl _) ⟨rfl, _, rfl, h⟩
set_option maxRecDepth 4000 in
theorem e_St_checkIndex {l : Launch} {d : Nat} {sh : aw_SH} {S : aw_S} {P : aw_S → Prop} {p0 : Int32} {p1 : Int32} (h : (Sp l m_Pr_checkIndex d 0 0 [.int p0, .int p1, .null] sh S (gI sh (fun x2 S1 => P S1)) ∧ Sp l m_Pr_checkIndex d 0 0 [.int p0, .int p1, .float 5] sh S (gI sh (fun x4 S3 => P S3)))) : Sp l m_St_checkIndex (d + 1) 0 0 [.int p0, .int p1] sh S (gV sh P) := by
  refine Sp.of k_St_checkIndex (ls := [.int p0, .int p1]) rfl (Nat.le_of_ble_eq_true rfl) ?_
  refine r_iload_n (pc := 0) d_St_checkIndex_0 (x := p0) rfl ?_
  refine r_iload_n (pc := 1) d_St_checkIndex_1 (x := p1) rfl ?_
  refine r_gsF (pc := 2) d_St_checkIndex_2 rfl ?_ ?_
  · replace h := h.1
    refine r_callS (pc := 5) (k := 0) (As := [.int p0, .int p1, .null]) (rest := []) (mc' := 0) (ms' := 0) lk_St_1059 st_Pr_checkIndex d_St_checkIndex_5 k_Pr_checkIndex rfl rfl (Nat.le_of_ble_eq_true rfl) (by decide) (by decide) (Sp.mono h ?_)
    rintro rS1 shS1 S1 ⟨qS1, x2, uS1, h⟩
    subst uS1
    rw [qS1]
    refine r_pop (pc := 8) d_St_checkIndex_8 rfl ?_
    exact r_return (pc := 9) d_St_checkIndex_9 rfl rfl (Nat.le_refl _) ⟨rfl, rfl, h⟩
  · replace h := h.2
    refine r_callS (pc := 5) (k := 0) (As := [.int p0, .int p1, .float 5]) (rest := []) (mc' := 0) (ms' := 0) lk_St_1059 st_Pr_checkIndex d_St_checkIndex_5 k_Pr_checkIndex rfl rfl (Nat.le_of_ble_eq_true rfl) (by decide) (by decide) (Sp.mono h ?_)
    rintro rS3 shS3 S3 ⟨qS3, x4, uS3, h⟩
    subst uS3
    rw [qS3]
    refine r_pop (pc := 8) d_St_checkIndex_8 rfl ?_
    exact r_return (pc := 9) d_St_checkIndex_9 rfl rfl (Nat.le_refl _) ⟨rfl, rfl, h⟩
