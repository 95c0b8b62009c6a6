set_option maxRecDepth 4000 in
theorem e_Gr_clear {l : Launch} {d : Nat} {sh : aw_SH} {S : aw_S} {P : aw_S → Prop} {a : Nat} (sa : sh[a]? = some (0, 2)) (h : ∃ r1, (aw_uI (aw_uI (aw_uI S a 0 0) a 1 2) a 2 12).2.2 a 10 = some r1 ∧ sh[r1]? = some (0, 3) ∧ ∃ r3, (aw_uI (aw_uI (aw_uI (aw_uI S a 0 0) a 1 2) a 2 12) r1 1 0).2.2 a 11 = some r3 ∧ sh[r3]? = some (0, 4) ∧ Sp l m_Fe_clear d 0 0 [.ref r3] sh (aw_uI (aw_uI (aw_uI (aw_uI S a 0 0) a 1 2) a 2 12) r1 1 0) (gV sh (fun S5 => Sp l m_Gr_forgetDone d 0 0 [.ref a] sh S5 (gV sh (fun S6 => P S6))))) : Sp l m_Gr_clear (d + 1) 0 0 [.ref a] sh S (gV sh P) := by
  refine Sp.of k_Gr_clear (ls := [.ref a]) rfl (Nat.le_of_ble_eq_true rfl) ?_
  refine r_aload_n (pc := 0) d_Gr_clear_0 (x := a) rfl ?_
  refine r_iconst (pc := 1) d_Gr_clear_1 (v := 0) (by decide) ?_
  refine r_putI (pc := 2) d_Gr_clear_2 f_Gr_54 sa rfl ?_
  refine r_aload_n (pc := 5) d_Gr_clear_5 (x := a) rfl ?_
  refine r_iconst (pc := 6) d_Gr_clear_6 (v := 2) (by decide) ?_
  refine r_putI (pc := 7) d_Gr_clear_7 f_Gr_47 sa rfl ?_
  refine r_aload_n (pc := 10) d_Gr_clear_10 (x := a) rfl ?_
  refine r_bipush (pc := 11) d_Gr_clear_11 (v := 12) (by decide) ?_
  refine r_putI (pc := 13) d_Gr_clear_13 f_Gr_51 sa rfl ?_
  refine r_aload_n (pc := 16) d_Gr_clear_16 (x := a) rfl ?_
  obtain ⟨r1, er1, h⟩ := h
  refine r_getR (pc := 17) d_Gr_clear_17 f_Gr_33 sa (Or.inl ⟨_, rfl⟩) (r := r1) er1 ?_
  refine r_iconst (pc := 20) d_Gr_clear_20 (v := 0) (by decide) ?_
  obtain ⟨s2, h⟩ := h
  refine r_putI (pc := 21) d_Gr_clear_21 f_Gr_57 s2 rfl ?_
  refine r_aload_n (pc := 24) d_Gr_clear_24 (x := a) rfl ?_
  obtain ⟨r3, er3, h⟩ := h
  refine r_getR (pc := 25) d_Gr_clear_25 f_Gr_40 sa (Or.inl ⟨_, rfl⟩) (r := r3) er3 ?_
  obtain ⟨s4, h⟩ := h
  refine r_callV (pc := 28) (k := r3) (As := []) (rest := []) (mc' := 0) (ms' := 0) lk_Gr_60 in_Fe_clear se_Fe_clear s4 rfl d_Gr_clear_28 k_Fe_clear rfl rfl (Nat.le_of_ble_eq_true rfl) (by decide) (by decide) (Sp.mono h ?_)
  rintro rS5 shS5 S5 ⟨qS5, uS5, h⟩
  subst uS5
  rw [qS5]
  refine r_aload_n (pc := 31) d_Gr_clear_31 (x := a) rfl ?_
  refine r_callV (pc := 32) (k := a) (As := []) (rest := []) (mc' := 0) (ms' := 0) lk_Gr_63 in_Gr_forgetDone se_Gr_forgetDone sa rfl d_Gr_clear_32 k_Gr_forgetDone rfl rfl (Nat.le_of_ble_eq_true rfl) (by decide) (by decide) (Sp.mono h ?_)
  rintro rS6 shS6 S6 ⟨qS6, uS6, h⟩
  subst uS6
  rw [qS6]
  exact r_return (pc := 35) d_Gr_clear_35 rfl rfl (Nat.le_refl _) ⟨rfl, rfl, h⟩
set_option maxRecDepth 4000 in
theorem e_Gr_forgetDone {l : Launch} {d : Nat} {sh : aw_SH} {S : aw_S} {P : aw_S → Prop} {a : Nat} (sa : sh[a]? = some (0, 2)) (h : P (aw_uI (aw_uI S a 3 0) a 4 0)) : Sp l m_Gr_forgetDone (d + 1) 0 0 [.ref a] sh S (gV sh P) := by
  refine Sp.of k_Gr_forgetDone (ls := [.ref a]) rfl (Nat.le_of_ble_eq_true rfl) ?_
  refine r_aload_n (pc := 0) d_Gr_forgetDone_0 (x := a) rfl ?_
  refine r_iconst (pc := 1) d_Gr_forgetDone_1 (v := 0) (by decide) ?_
  refine r_putI (pc := 2) d_Gr_forgetDone_2 f_Gr_66 sa rfl ?_
  refine r_aload_n (pc := 5) d_Gr_forgetDone_5 (x := a) rfl ?_
  refine r_iconst (pc := 6) d_Gr_forgetDone_6 (v := 0) (by decide) ?_
  refine r_putI (pc := 7) d_Gr_forgetDone_7 f_Gr_69 sa rfl ?_
  exact r_return (pc := 10) d_Gr_forgetDone_10 rfl rfl (Nat.le_refl _) ⟨rfl, rfl, h⟩
set_option maxRecDepth 4000 in
theorem e_Gr_named {l : Launch} {d : Nat} {sh : aw_SH} {S : aw_S} {P : Int32 → aw_S → Prop} {a : Nat} {p0 : Int64} (sa : sh[a]? = some (0, 2)) (h : AW l m_Gr_named (d + 1) 0 0 (gI sh P) 0 0 2 [.ref a, .long p0, .null, .int 0] [] sh S) : Sp l m_Gr_named (d + 1) 0 0 [.ref a, .long p0] sh S (gI sh P) := by
  refine Sp.of k_Gr_named (ls := [.ref a, .long p0, .null, .null]) rfl (Nat.le_of_ble_eq_true rfl) ?_
  refine r_iconst (pc := 0) d_Gr_named_0 (v := 0) (by decide) ?_
  refine r_istore_n (pc := 1) (hk := rfl) (hd := d_Gr_named_1) (hi := by decide) (ls2 := [.ref a, .long p0, .null, .int 0]) (h2 := rfl) ?_
  exact h
set_option maxRecDepth 4000 in
theorem s_Gr_named_2 {l : Launch} {d : Nat} {sh : aw_SH} {S : aw_S} {P : Int32 → aw_S → Prop} {a : Nat} {i1 : Int64} {i3 : Int32} (sa : sh[a]? = some (0, 2)) (h : (((S.1 a 0) ≤ i3 → P (-1) S) ∧ (¬ (S.1 a 0) ≤ i3 → ∃ r2, S.2.2 a 5 = some r2 ∧ ∃ n4, sh[r2]? = some (4, n4) ∧ vp_in i3 n4 ∧ ((¬ (lg_cmp (S.2.1 r2 i3.toNatClampNeg) i1) = 0 → AW l m_Gr_named (d + 1) 0 0 (gI sh P) 0 0 2 [.ref a, .long i1, .null, .int (i3 + 1)] [] sh S) ∧ ((lg_cmp (S.2.1 r2 i3.toNatClampNeg) i1) = 0 → P i3 S))))) : AW l m_Gr_named (d + 1) 0 0 (gI sh P) 0 0 2 [.ref a, .long i1, .null, .int i3] [] sh S := by
  refine r_iload_n (pc := 2) d_Gr_named_2 (x := i3) rfl ?_
  refine r_aload_n (pc := 3) d_Gr_named_3 (x := a) rfl ?_
  refine r_getI (pc := 4) d_Gr_named_4 f_Gr_54 sa rfl ?_
  refine r_icmp_ge (pc := 7) d_Gr_named_7 (tgt := 29) (by decide) (fun c1 => ?_) (fun c1 => ?_)
  · replace h := h.1 c1
    refine r_iconst (pc := 29) d_Gr_named_29 (v := (-1)) (by decide) ?_
    exact r_ireturn (pc := 30) d_Gr_named_30 rfl rfl (Nat.le_refl _) ⟨rfl, _, rfl, h⟩
  · replace h := h.2 c1
    refine r_aload_n (pc := 10) d_Gr_named_10 (x := a) rfl ?_
    obtain ⟨r2, er2, h⟩ := h
    refine r_getR (pc := 11) d_Gr_named_11 f_Gr_9 sa (Or.inr ⟨_, rfl⟩) (r := r2) er2 ?_
    refine r_iload_n (pc := 14) d_Gr_named_14 (x := i3) rfl ?_
    obtain ⟨n4, s3, h⟩ := h
    obtain ⟨g5, h⟩ := h
    refine r_lald (pc := 15) d_Gr_named_15 s3 g5 ?_
    refine r_lload_n (pc := 16) d_Gr_named_16 (x := i1) rfl ?_
    refine r_lcmp (pc := 17) d_Gr_named_17 ?_
    refine r_if_ne (pc := 18) d_Gr_named_18 (tgt := 23) (by decide) (fun c6 => ?_) (fun c6 => ?_)
    · replace h := h.1 c6
      refine r_iinc (pc := 23) d_Gr_named_23 (hi := by decide) (x := i3) rfl (v := i3 + 1) rfl (ls2 := [.ref a, .long i1, .null, .int (i3 + 1)]) rfl ?_
      refine r_goto (pc := 26) d_Gr_named_26 (tgt := 2) (by decide) ?_
      exact h
    · replace h := h.2 c6
      refine r_iload_n (pc := 21) d_Gr_named_21 (x := i3) rfl ?_
      exact r_ireturn (pc := 22) d_Gr_named_22 rfl rfl (Nat.le_refl _) ⟨rfl, _, rfl, h⟩
set_option maxRecDepth 4000 in
theorem e_Gr_join {l : Launch} {d : Nat} {sh : aw_SH} {S : aw_S} {P : aw_S → Prop} {a : Nat} {p0 : Int64} {p1 : Int32} (sa : sh[a]? = some (0, 2)) (h : (((S.1 a 0) < 7 → ∃ r2, S.2.2 a 5 = some r2 ∧ ∃ n4, sh[r2]? = some (4, n4) ∧ vp_in (S.1 a 0) n4 ∧ ∃ r6, (aw_uL S r2 ((S.1 a 0 : Int32).toNatClampNeg) p0).2.2 a 6 = some r6 ∧ ∃ n8, sh[r6]? = some (3, n8) ∧ vp_in ((aw_uL S r2 ((S.1 a 0 : Int32).toNatClampNeg) p0).1 a 0) n8 ∧ ∃ r10, (aw_uI (aw_uL S r2 ((S.1 a 0 : Int32).toNatClampNeg) p0) r6 (((aw_uL S r2 ((S.1 a 0 : Int32).toNatClampNeg) p0).1 a 0 : Int32).toNatClampNeg) p1).2.2 a 7 = some r10 ∧ ∃ n12, sh[r10]? = some (3, n12) ∧ vp_in ((aw_uI (aw_uL S r2 ((S.1 a 0 : Int32).toNatClampNeg) p0) r6 (((aw_uL S r2 ((S.1 a 0 : Int32).toNatClampNeg) p0).1 a 0 : Int32).toNatClampNeg) p1).1 a 0) n12 ∧ ∃ r14, (aw_uI (aw_uI (aw_uL S r2 ((S.1 a 0 : Int32).toNatClampNeg) p0) r6 (((aw_uL S r2 ((S.1 a 0 : Int32).toNatClampNeg) p0).1 a 0 : Int32).toNatClampNeg) p1) r10 (((aw_uI (aw_uL S r2 ((S.1 a 0 : Int32).toNatClampNeg) p0) r6 (((aw_uL S r2 ((S.1 a 0 : Int32).toNatClampNeg) p0).1 a 0 : Int32).toNatClampNeg) p1).1 a 0 : Int32).toNatClampNeg) ((aw_uI (aw_uL S r2 ((S.1 a 0 : Int32).toNatClampNeg) p0) r6 (((aw_uL S r2 ((S.1 a 0 : Int32).toNatClampNeg) p0).1 a 0 : Int32).toNatClampNeg) p1).1 a 0)).2.2 a 8 = some r14 ∧ ∃ n16, sh[r14]? = some (3, n16) ∧ vp_in ((aw_uI (aw_uI (aw_uL S r2 ((S.1 a 0 : Int32).toNatClampNeg) p0) r6 (((aw_uL S r2 ((S.1 a 0 : Int32).toNatClampNeg) p0).1 a 0 : Int32).toNatClampNeg) p1) r10 (((aw_uI (aw_uL S r2 ((S.1 a 0 : Int32).toNatClampNeg) p0) r6 (((aw_uL S r2 ((S.1 a 0 : Int32).toNatClampNeg) p0).1 a 0 : Int32).toNatClampNeg) p1).1 a 0 : Int32).toNatClampNeg) ((aw_uI (aw_uL S r2 ((S.1 a 0 : Int32).toNatClampNeg) p0) r6 (((aw_uL S r2 ((S.1 a 0 : Int32).toNatClampNeg) p0).1 a 0 : Int32).toNatClampNeg) p1).1 a 0)).1 a 0) n16 ∧ ∃ r18, (aw_uI (aw_uI (aw_uI (aw_uL S r2 ((S.1 a 0 : Int32).toNatClampNeg) p0) r6 (((aw_uL S r2 ((S.1 a 0 : Int32).toNatClampNeg) p0).1 a 0 : Int32).toNatClampNeg) p1) r10 (((aw_uI (aw_uL S r2 ((S.1 a 0 : Int32).toNatClampNeg) p0) r6 (((aw_uL S r2 ((S.1 a 0 : Int32).toNatClampNeg) p0).1 a 0 : Int32).toNatClampNeg) p1).1 a 0 : Int32).toNatClampNeg) ((aw_uI (aw_uL S r2 ((S.1 a 0 : Int32).toNatClampNeg) p0) r6 (((aw_uL S r2 ((S.1 a 0 : Int32).toNatClampNeg) p0).1 a 0 : Int32).toNatClampNeg) p1).1 a 0)) r14 (((aw_uI (aw_uI (aw_uL S r2 ((S.1 a 0 : Int32).toNatClampNeg) p0) r6 (((aw_uL S r2 ((S.1 a 0 : Int32).toNatClampNeg) p0).1 a 0 : Int32).toNatClampNeg) p1) r10 (((aw_uI (aw_uL S r2 ((S.1 a 0 : Int32).toNatClampNeg) p0) r6 (((aw_uL S r2 ((S.1 a 0 : Int32).toNatClampNeg) p0).1 a 0 : Int32).toNatClampNeg) p1).1 a 0 : Int32).toNatClampNeg) ((aw_uI (aw_uL S r2 ((S.1 a 0 : Int32).toNatClampNeg) p0) r6 (((aw_uL S r2 ((S.1 a 0 : Int32).toNatClampNeg) p0).1 a 0 : Int32).toNatClampNeg) p1).1 a 0)).1 a 0 : Int32).toNatClampNeg) 0).2.2 a 9 = some r18 ∧ ∃ n20, sh[r18]? = some (3, n20) ∧ vp_in ((aw_uI (aw_uI (aw_uI (aw_uL S r2 ((S.1 a 0 : Int32).toNatClampNeg) p0) r6 (((aw_uL S r2 ((S.1 a 0 : Int32).toNatClampNeg) p0).1 a 0 : Int32).toNatClampNeg) p1) r10 (((aw_uI (aw_uL S r2 ((S.1 a 0 : Int32).toNatClampNeg) p0) r6 (((aw_uL S r2 ((S.1 a 0 : Int32).toNatClampNeg) p0).1 a 0 : Int32).toNatClampNeg) p1).1 a 0 : Int32).toNatClampNeg) ((aw_uI (aw_uL S r2 ((S.1 a 0 : Int32).toNatClampNeg) p0) r6 (((aw_uL S r2 ((S.1 a 0 : Int32).toNatClampNeg) p0).1 a 0 : Int32).toNatClampNeg) p1).1 a 0)) r14 (((aw_uI (aw_uI (aw_uL S r2 ((S.1 a 0 : Int32).toNatClampNeg) p0) r6 (((aw_uL S r2 ((S.1 a 0 : Int32).toNatClampNeg) p0).1 a 0 : Int32).toNatClampNeg) p1) r10 (((aw_uI (aw_uL S r2 ((S.1 a 0 : Int32).toNatClampNeg) p0) r6 (((aw_uL S r2 ((S.1 a 0 : Int32).toNatClampNeg) p0).1 a 0 : Int32).toNatClampNeg) p1).1 a 0 : Int32).toNatClampNeg) ((aw_uI (aw_uL S r2 ((S.1 a 0 : Int32).toNatClampNeg) p0) r6 (((aw_uL S r2 ((S.1 a 0 : Int32).toNatClampNeg) p0).1 a 0 : Int32).toNatClampNeg) p1).1 a 0)).1 a 0 : Int32).toNatClampNeg) 0).1 a 0) n20 ∧ P (aw_uI (aw_uI (aw_uI (aw_uI (aw_uI (aw_uL S r2 ((S.1 a 0 : Int32).toNatClampNeg) p0) r6 (((aw_uL S r2 ((S.1 a 0 : Int32).toNatClampNeg) p0).1 a 0 : Int32).toNatClampNeg) p1) r10 (((aw_uI (aw_uL S r2 ((S.1 a 0 : Int32).toNatClampNeg) p0) r6 (((aw_uL S r2 ((S.1 a 0 : Int32).toNatClampNeg) p0).1 a 0 : Int32).toNatClampNeg) p1).1 a 0 : Int32).toNatClampNeg) ((aw_uI (aw_uL S r2 ((S.1 a 0 : Int32).toNatClampNeg) p0) r6 (((aw_uL S r2 ((S.1 a 0 : Int32).toNatClampNeg) p0).1 a 0 : Int32).toNatClampNeg) p1).1 a 0)) r14 (((aw_uI (aw_uI (aw_uL S r2 ((S.1 a 0 : Int32).toNatClampNeg) p0) r6 (((aw_uL S r2 ((S.1 a 0 : Int32).toNatClampNeg) p0).1 a 0 : Int32).toNatClampNeg) p1) r10 (((aw_uI (aw_uL S r2 ((S.1 a 0 : Int32).toNatClampNeg) p0) r6 (((aw_uL S r2 ((S.1 a 0 : Int32).toNatClampNeg) p0).1 a 0 : Int32).toNatClampNeg) p1).1 a 0 : Int32).toNatClampNeg) ((aw_uI (aw_uL S r2 ((S.1 a 0 : Int32).toNatClampNeg) p0) r6 (((aw_uL S r2 ((S.1 a 0 : Int32).toNatClampNeg) p0).1 a 0 : Int32).toNatClampNeg) p1).1 a 0)).1 a 0 : Int32).toNatClampNeg) 0) r18 (((aw_uI (aw_uI (aw_uI (aw_uL S r2 ((S.1 a 0 : Int32).toNatClampNeg) p0) r6 (((aw_uL S r2 ((S.1 a 0 : Int32).toNatClampNeg) p0).1 a 0 : Int32).toNatClampNeg) p1) r10 (((aw_uI (aw_uL S r2 ((S.1 a 0 : Int32).toNatClampNeg) p0) r6 (((aw_uL S r2 ((S.1 a 0 : Int32).toNatClampNeg) p0).1 a 0 : Int32).toNatClampNeg) p1).1 a 0 : Int32).toNatClampNeg) ((aw_uI (aw_uL S r2 ((S.1 a 0 : Int32).toNatClampNeg) p0) r6 (((aw_uL S r2 ((S.1 a 0 : Int32).toNatClampNeg) p0).1 a 0 : Int32).toNatClampNeg) p1).1 a 0)) r14 (((aw_uI (aw_uI (aw_uL S r2 ((S.1 a 0 : Int32).toNatClampNeg) p0) r6 (((aw_uL S r2 ((S.1 a 0 : Int32).toNatClampNeg) p0).1 a 0 : Int32).toNatClampNeg) p1) r10 (((aw_uI (aw_uL S r2 ((S.1 a 0 : Int32).toNatClampNeg) p0) r6 (((aw_uL S r2 ((S.1 a 0 : Int32).toNatClampNeg) p0).1 a 0 : Int32).toNatClampNeg) p1).1 a 0 : Int32).toNatClampNeg) ((aw_uI (aw_uL S r2 ((S.1 a 0 : Int32).toNatClampNeg) p0) r6 (((aw_uL S r2 ((S.1 a 0 : Int32).toNatClampNeg) p0).1 a 0 : Int32).toNatClampNeg) p1).1 a 0)).1 a 0 : Int32).toNatClampNeg) 0).1 a 0 : Int32).toNatClampNeg) ((aw_uI (aw_uI (aw_uI (aw_uL S r2 ((S.1 a 0 : Int32).toNatClampNeg) p0) r6 (((aw_uL S r2 ((S.1 a 0 : Int32).toNatClampNeg) p0).1 a 0 : Int32).toNatClampNeg) p1) r10 (((aw_uI (aw_uL S r2 ((S.1 a 0 : Int32).toNatClampNeg) p0) r6 (((aw_uL S r2 ((S.1 a 0 : Int32).toNatClampNeg) p0).1 a 0 : Int32).toNatClampNeg) p1).1 a 0 : Int32).toNatClampNeg) ((aw_uI (aw_uL S r2 ((S.1 a 0 : Int32).toNatClampNeg) p0) r6 (((aw_uL S r2 ((S.1 a 0 : Int32).toNatClampNeg) p0).1 a 0 : Int32).toNatClampNeg) p1).1 a 0)) r14 (((aw_uI (aw_uI (aw_uL S r2 ((S.1 a 0 : Int32).toNatClampNeg) p0) r6 (((aw_uL S r2 ((S.1 a 0 : Int32).toNatClampNeg) p0).1 a 0 : Int32).toNatClampNeg) p1) r10 (((aw_uI (aw_uL S r2 ((S.1 a 0 : Int32).toNatClampNeg) p0) r6 (((aw_uL S r2 ((S.1 a 0 : Int32).toNatClampNeg) p0).1 a 0 : Int32).toNatClampNeg) p1).1 a 0 : Int32).toNatClampNeg) ((aw_uI (aw_uL S r2 ((S.1 a 0 : Int32).toNatClampNeg) p0) r6 (((aw_uL S r2 ((S.1 a 0 : Int32).toNatClampNeg) p0).1 a 0 : Int32).toNatClampNeg) p1).1 a 0)).1 a 0 : Int32).toNatClampNeg) 0).1 a 0)) a 0 (((aw_uI (aw_uI (aw_uI (aw_uI (aw_uL S r2 ((S.1 a 0 : Int32).toNatClampNeg) p0) r6 (((aw_uL S r2 ((S.1 a 0 : Int32).toNatClampNeg) p0).1 a 0 : Int32).toNatClampNeg) p1) r10 (((aw_uI (aw_uL S r2 ((S.1 a 0 : Int32).toNatClampNeg) p0) r6 (((aw_uL S r2 ((S.1 a 0 : Int32).toNatClampNeg) p0).1 a 0 : Int32).toNatClampNeg) p1).1 a 0 : Int32).toNatClampNeg) ((aw_uI (aw_uL S r2 ((S.1 a 0 : Int32).toNatClampNeg) p0) r6 (((aw_uL S r2 ((S.1 a 0 : Int32).toNatClampNeg) p0).1 a 0 : Int32).toNatClampNeg) p1).1 a 0)) r14 (((aw_uI (aw_uI (aw_uL S r2 ((S.1 a 0 : Int32).toNatClampNeg) p0) r6 (((aw_uL S r2 ((S.1 a 0 : Int32).toNatClampNeg) p0).1 a 0 : Int32).toNatClampNeg) p1) r10 (((aw_uI (aw_uL S r2 ((S.1 a 0 : Int32).toNatClampNeg) p0) r6 (((aw_uL S r2 ((S.1 a 0 : Int32).toNatClampNeg) p0).1 a 0 : Int32).toNatClampNeg) p1).1 a 0 : Int32).toNatClampNeg) ((aw_uI (aw_uL S r2 ((S.1 a 0 : Int32).toNatClampNeg) p0) r6 (((aw_uL S r2 ((S.1 a 0 : Int32).toNatClampNeg) p0).1 a 0 : Int32).toNatClampNeg) p1).1 a 0)).1 a 0 : Int32).toNatClampNeg) 0) r18 (((aw_uI (aw_uI (aw_uI (aw_uL S r2 ((S.1 a 0 : Int32).toNatClampNeg) p0) r6 (((aw_uL S r2 ((S.1 a 0 : Int32).toNatClampNeg) p0).1 a 0 : Int32).toNatClampNeg) p1) r10 (((aw_uI (aw_uL S r2 ((S.1 a 0 : Int32).toNatClampNeg) p0) r6 (((aw_uL S r2 ((S.1 a 0 : Int32).toNatClampNeg) p0).1 a 0 : Int32).toNatClampNeg) p1).1 a 0 : Int32).toNatClampNeg) ((aw_uI (aw_uL S r2 ((S.1 a 0 : Int32).toNatClampNeg) p0) r6 (((aw_uL S r2 ((S.1 a 0 : Int32).toNatClampNeg) p0).1 a 0 : Int32).toNatClampNeg) p1).1 a 0)) r14 (((aw_uI (aw_uI (aw_uL S r2 ((S.1 a 0 : Int32).toNatClampNeg) p0) r6 (((aw_uL S r2 ((S.1 a 0 : Int32).toNatClampNeg) p0).1 a 0 : Int32).toNatClampNeg) p1) r10 (((aw_uI (aw_uL S r2 ((S.1 a 0 : Int32).toNatClampNeg) p0) r6 (((aw_uL S r2 ((S.1 a 0 : Int32).toNatClampNeg) p0).1 a 0 : Int32).toNatClampNeg) p1).1 a 0 : Int32).toNatClampNeg) ((aw_uI (aw_uL S r2 ((S.1 a 0 : Int32).toNatClampNeg) p0) r6 (((aw_uL S r2 ((S.1 a 0 : Int32).toNatClampNeg) p0).1 a 0 : Int32).toNatClampNeg) p1).1 a 0)).1 a 0 : Int32).toNatClampNeg) 0).1 a 0 : Int32).toNatClampNeg) ((aw_uI (aw_uI (aw_uI (aw_uL S r2 ((S.1 a 0 : Int32).toNatClampNeg) p0) r6 (((aw_uL S r2 ((S.1 a 0 : Int32).toNatClampNeg) p0).1 a 0 : Int32).toNatClampNeg) p1) r10 (((aw_uI (aw_uL S r2 ((S.1 a 0 : Int32).toNatClampNeg) p0) r6 (((aw_uL S r2 ((S.1 a 0 : Int32).toNatClampNeg) p0).1 a 0 : Int32).toNatClampNeg) p1).1 a 0 : Int32).toNatClampNeg) ((aw_uI (aw_uL S r2 ((S.1 a 0 : Int32).toNatClampNeg) p0) r6 (((aw_uL S r2 ((S.1 a 0 : Int32).toNatClampNeg) p0).1 a 0 : Int32).toNatClampNeg) p1).1 a 0)) r14 (((aw_uI (aw_uI (aw_uL S r2 ((S.1 a 0 : Int32).toNatClampNeg) p0) r6 (((aw_uL S r2 ((S.1 a 0 : Int32).toNatClampNeg) p0).1 a 0 : Int32).toNatClampNeg) p1) r10 (((aw_uI (aw_uL S r2 ((S.1 a 0 : Int32).toNatClampNeg) p0) r6 (((aw_uL S r2 ((S.1 a 0 : Int32).toNatClampNeg) p0).1 a 0 : Int32).toNatClampNeg) p1).1 a 0 : Int32).toNatClampNeg) ((aw_uI (aw_uL S r2 ((S.1 a 0 : Int32).toNatClampNeg) p0) r6 (((aw_uL S r2 ((S.1 a 0 : Int32).toNatClampNeg) p0).1 a 0 : Int32).toNatClampNeg) p1).1 a 0)).1 a 0 : Int32).toNatClampNeg) 0).1 a 0)).1 a 0) + (1 : Int32)))) ∧ (¬ (S.1 a 0) < 7 → P S))) : Sp l m_Gr_join (d + 1) 0 0 [.ref a, .long p0, .int p1] sh S (gV sh P) := by
  refine Sp.of k_Gr_join (ls := [.ref a, .long p0, .null, .int p1]) rfl (Nat.le_of_ble_eq_true rfl) ?_
  refine r_aload_n (pc := 0) d_Gr_join_0 (x := a) rfl ?_
  refine r_getI (pc := 1) d_Gr_join_1 f_Gr_54 sa rfl ?_
  refine r_bipush (pc := 4) d_Gr_join_4 (v := 7) (by decide) ?_
  refine r_icmp_lt (pc := 6) d_Gr_join_6 (tgt := 10) (by decide) (fun c1 => ?_) (fun c1 => ?_)
  · replace h := h.1 c1
    refine r_aload_n (pc := 10) d_Gr_join_10 (x := a) rfl ?_
    obtain ⟨r2, er2, h⟩ := h
    refine r_getR (pc := 11) d_Gr_join_11 f_Gr_9 sa (Or.inr ⟨_, rfl⟩) (r := r2) er2 ?_
    refine r_aload_n (pc := 14) d_Gr_join_14 (x := a) rfl ?_
    refine r_getI (pc := 15) d_Gr_join_15 f_Gr_54 sa rfl ?_
    refine r_lload_n (pc := 18) d_Gr_join_18 (x := p0) rfl ?_
    obtain ⟨n4, s3, h⟩ := h
    obtain ⟨g5, h⟩ := h
    refine r_last (pc := 19) d_Gr_join_19 s3 g5 ?_
    refine r_aload_n (pc := 20) d_Gr_join_20 (x := a) rfl ?_
    obtain ⟨r6, er6, h⟩ := h
    refine r_getR (pc := 21) d_Gr_join_21 f_Gr_15 sa (Or.inr ⟨_, rfl⟩) (r := r6) er6 ?_
    refine r_aload_n (pc := 24) d_Gr_join_24 (x := a) rfl ?_
    refine r_getI (pc := 25) d_Gr_join_25 f_Gr_54 sa rfl ?_
    refine r_iload_n (pc := 28) d_Gr_join_28 (x := p1) rfl ?_
    obtain ⟨n8, s7, h⟩ := h
    obtain ⟨g9, h⟩ := h
    refine r_iast (pc := 29) d_Gr_join_29 s7 g9 ?_
    refine r_aload_n (pc := 30) d_Gr_join_30 (x := a) rfl ?_
    obtain ⟨r10, er10, h⟩ := h
    refine r_getR (pc := 31) d_Gr_join_31 f_Gr_19 sa (Or.inr ⟨_, rfl⟩) (r := r10) er10 ?_
    refine r_aload_n (pc := 34) d_Gr_join_34 (x := a) rfl ?_
    refine r_getI (pc := 35) d_Gr_join_35 f_Gr_54 sa rfl ?_
    refine r_aload_n (pc := 38) d_Gr_join_38 (x := a) rfl ?_
    refine r_getI (pc := 39) d_Gr_join_39 f_Gr_54 sa rfl ?_
    obtain ⟨n12, s11, h⟩ := h
    obtain ⟨g13, h⟩ := h
    refine r_iast (pc := 42) d_Gr_join_42 s11 g13 ?_
    refine r_aload_n (pc := 43) d_Gr_join_43 (x := a) rfl ?_
    obtain ⟨r14, er14, h⟩ := h
    refine r_getR (pc := 44) d_Gr_join_44 f_Gr_22 sa (Or.inr ⟨_, rfl⟩) (r := r14) er14 ?_
    refine r_aload_n (pc := 47) d_Gr_join_47 (x := a) rfl ?_
    refine r_getI (pc := 48) d_Gr_join_48 f_Gr_54 sa rfl ?_
    refine r_iconst (pc := 51) d_Gr_join_51 (v := 0) (by decide) ?_
    obtain ⟨n16, s15, h⟩ := h
    obtain ⟨g17, h⟩ := h
    refine r_iast (pc := 52) d_Gr_join_52 s15 g17 ?_
    refine r_aload_n (pc := 53) d_Gr_join_53 (x := a) rfl ?_
    obtain ⟨r18, er18, h⟩ := h
    refine r_getR (pc := 54) d_Gr_join_54 f_Gr_25 sa (Or.inr ⟨_, rfl⟩) (r := r18) er18 ?_
    refine r_aload_n (pc := 57) d_Gr_join_57 (x := a) rfl ?_
    refine r_getI (pc := 58) d_Gr_join_58 f_Gr_54 sa rfl ?_
    refine r_aload_n (pc := 61) d_Gr_join_61 (x := a) rfl ?_
    refine r_getI (pc := 62) d_Gr_join_62 f_Gr_54 sa rfl ?_
    obtain ⟨n20, s19, h⟩ := h
    obtain ⟨g21, h⟩ := h
    refine r_iast (pc := 65) d_Gr_join_65 s19 g21 ?_
    refine r_aload_n (pc := 66) d_Gr_join_66 (x := a) rfl ?_
    refine r_dup (pc := 67) d_Gr_join_67 rfl ?_
    refine r_getI (pc := 68) d_Gr_join_68 f_Gr_54 sa rfl ?_
    refine r_iconst (pc := 71) d_Gr_join_71 (v := 1) (by decide) ?_
    refine r_iadd (pc := 72) d_Gr_join_72 ?_
    refine r_putI (pc := 73) d_Gr_join_73 f_Gr_54 sa rfl ?_
    exact r_return (pc := 76) d_Gr_join_76 rfl rfl (Nat.le_refl _) ⟨rfl, rfl, h⟩
  · replace h := h.2 c1
    exact r_return (pc := 9) d_Gr_join_9 rfl rfl (Nat.le_refl _) ⟨rfl, rfl, h⟩
set_option maxRecDepth 4000 in
theorem e_Gr_gaps {l : Launch} {d : Nat} {sh : aw_SH} {S : aw_S} {P : Int32 → aw_S → Prop} {a : Nat} (sa : sh[a]? = some (0, 2)) (h : ((2 ≤ (S.1 a 0) → ((¬ (S.1 a 0) = 2 → P (S.1 a 0) S) ∧ ((S.1 a 0) = 2 → P 1 S))) ∧ (¬ 2 ≤ (S.1 a 0) → P 0 S))) : Sp l m_Gr_gaps (d + 1) 0 0 [.ref a] sh S (gI sh P) := by
  refine Sp.of k_Gr_gaps (ls := [.ref a]) rfl (Nat.le_of_ble_eq_true rfl) ?_
  refine r_aload_n (pc := 0) d_Gr_gaps_0 (x := a) rfl ?_
  refine r_getI (pc := 1) d_Gr_gaps_1 f_Gr_54 sa rfl ?_
  refine r_iconst (pc := 4) d_Gr_gaps_4 (v := 2) (by decide) ?_
  refine r_icmp_ge (pc := 5) d_Gr_gaps_5 (tgt := 10) (by decide) (fun c1 => ?_) (fun c1 => ?_)
  · replace h := h.1 c1
    refine r_aload_n (pc := 10) d_Gr_gaps_10 (x := a) rfl ?_
    refine r_getI (pc := 11) d_Gr_gaps_11 f_Gr_54 sa rfl ?_
    refine r_iconst (pc := 14) d_Gr_gaps_14 (v := 2) (by decide) ?_
    refine r_icmp_ne (pc := 15) d_Gr_gaps_15 (tgt := 22) (by decide) (fun c2 => ?_) (fun c2 => ?_)
    · replace h := h.1 c2
      refine r_aload_n (pc := 22) d_Gr_gaps_22 (x := a) rfl ?_
      refine r_getI (pc := 23) d_Gr_gaps_23 f_Gr_54 sa rfl ?_
      exact r_ireturn (pc := 26) d_Gr_gaps_26 rfl rfl (Nat.le_refl _) ⟨rfl, _, rfl, h⟩
    · replace h := h.2 c2
      refine r_iconst (pc := 18) d_Gr_gaps_18 (v := 1) (by decide) ?_
      refine r_goto (pc := 19) d_Gr_gaps_19 (tgt := 26) (by decide) ?_
      exact r_ireturn (pc := 26) d_Gr_gaps_26 rfl rfl (Nat.le_refl _) ⟨rfl, _, rfl, h⟩
  · replace h := h.2 c1
    refine r_iconst (pc := 8) d_Gr_gaps_8 (v := 0) (by decide) ?_
    exact r_ireturn (pc := 9) d_Gr_gaps_9 rfl rfl (Nat.le_refl _) ⟨rfl, _, rfl, h⟩
set_option maxRecDepth 4000 in
theorem e_Gr_makePass {l : Launch} {d : Nat} {sh : aw_SH} {S : aw_S} {P : Int32 → aw_S → Prop} {a : Nat} {p0 : Int32} (sa : sh[a]? = some (0, 2)) (h : ∃ r1, S.2.2 a 10 = some r1 ∧ Sp l m_Gr_touching d 0 0 [.ref a, .int (p0 >>> ((1 : Int32) &&& 31))] sh S (gI sh (fun x3 S2 => sh[r1]? = some (0, 3) ∧ Sp l m_Pl_undoneBy d 0 0 [.ref r1, .int (p0 >>> ((1 : Int32) &&& 31)), .int (p0 &&& (1 : Int32)), .int x3] sh S2 (gI sh (fun x6 S5 => ((x6 = (-1) → Sp l m_Gr_canAdd d 0 0 [.ref a, .int (p0 >>> ((1 : Int32) &&& 31))] sh S5 (gI sh (fun x9 S8 => ((¬ x9 = 0 → ∃ r11, S8.2.2 a 9 = some r11 ∧ ∃ n13, sh[r11]? = some (3, n13) ∧ vp_in (p0 >>> ((1 : Int32) &&& 31)) n13 ∧ Sp l m_Gr_nextPlace d 0 0 [.ref a, .int (p0 >>> ((1 : Int32) &&& 31))] sh S8 (gI sh (fun x16 S15 => vp_in x16 n13 ∧ ((¬ (p0 &&& (1 : Int32)) = 1 → ∃ r19, S15.2.2 a 10 = some r19 ∧ sh[r19]? = some (0, 3) ∧ Sp l m_Pl_packed d 0 0 [.int (p0 >>> ((1 : Int32) &&& 31)), .int (p0 &&& (1 : Int32)), .int (S15.1 r11 x16.toNatClampNeg), .int (((S8.1 r11 (p0 >>> ((1 : Int32) &&& 31) : Int32).toNatClampNeg) + (S15.1 r11 x16.toNatClampNeg)) - (S15.1 r11 x16.toNatClampNeg))] sh S15 (gI sh (fun x22 S21 => Sp l m_Gr_insertPass d 0 0 [.ref a, .int (S15.1 r19 1), .int x22] sh S21 (gV sh (fun S23 => P 0 (aw_uI S23 a 3 ((S23.1 a 3) + (1 : Int32)))))))) ∧ ((p0 &&& (1 : Int32)) = 1 → ∃ r24, S15.2.2 a 10 = some r24 ∧ sh[r24]? = some (0, 3) ∧ Sp l m_Pl_packed d 0 0 [.int (p0 >>> ((1 : Int32) &&& 31)), .int (p0 &&& (1 : Int32)), .int (S8.1 r11 (p0 >>> ((1 : Int32) &&& 31) : Int32).toNatClampNeg), .int (((S8.1 r11 (p0 >>> ((1 : Int32) &&& 31) : Int32).toNatClampNeg) + (S15.1 r11 x16.toNatClampNeg)) - (S8.1 r11 (p0 >>> ((1 : Int32) &&& 31) : Int32).toNatClampNeg))] sh S15 (gI sh (fun x27 S26 => Sp l m_Gr_insertPass d 0 0 [.ref a, .int (S15.1 r24 1), .int x27] sh S26 (gV sh (fun S28 => P 0 (aw_uI S28 a 3 ((S28.1 a 3) + (1 : Int32)))))))))))) ∧ (x9 = 0 → P (-1) S8))))) ∧ (¬ x6 = (-1) → ∃ r29, S5.2.2 a 10 = some r29 ∧ sh[r29]? = some (0, 3) ∧ ∃ r31, S5.2.2 r29 0 = some r31 ∧ ∃ n33, sh[r31]? = some (3, n33) ∧ vp_in x6 n33 ∧ Sp l m_Gr_removePass d 0 0 [.ref a, .int x6] sh S5 (gV sh (fun S35 => P ((1 : Int32) + ((x6 <<< ((10 : Int32) &&& 31)) ||| (S5.1 r31 x6.toNatClampNeg))) (aw_uI S35 a 4 ((S35.1 a 4) + (1 : Int32)))))))))))) : Sp l m_Gr_makePass (d + 1) 0 0 [.ref a, .int p0] sh S (gI sh P) := by
  refine Sp.of k_Gr_makePass (ls := [.ref a, .int p0, .null, .null, .null, .null, .null, .null]) rfl (Nat.le_of_ble_eq_true rfl) ?_
  refine r_iload_n (pc := 0) d_Gr_makePass_0 (x := p0) rfl ?_
  refine r_iconst (pc := 1) d_Gr_makePass_1 (v := 1) (by decide) ?_
  refine r_ishr (pc := 2) d_Gr_makePass_2 ?_
  refine r_istore_n (pc := 3) (hk := rfl) (hd := d_Gr_makePass_3) (hi := by decide) (ls2 := [.ref a, .int p0, .int (p0 >>> ((1 : Int32) &&& 31)), .null, .null, .null, .null, .null]) (h2 := rfl) ?_
  refine r_iload_n (pc := 4) d_Gr_makePass_4 (x := p0) rfl ?_
  refine r_iconst (pc := 5) d_Gr_makePass_5 (v := 1) (by decide) ?_
  refine r_iand (pc := 6) d_Gr_makePass_6 ?_
  refine r_istore_n (pc := 7) (hk := rfl) (hd := d_Gr_makePass_7) (hi := by decide) (ls2 := [.ref a, .int p0, .int (p0 >>> ((1 : Int32) &&& 31)), .int (p0 &&& (1 : Int32)), .null, .null, .null, .null]) (h2 := rfl) ?_
  refine r_aload_n (pc := 8) d_Gr_makePass_8 (x := a) rfl ?_
  obtain ⟨r1, er1, h⟩ := h
  refine r_getR (pc := 9) d_Gr_makePass_9 f_Gr_33 sa (Or.inl ⟨_, rfl⟩) (r := r1) er1 ?_
  refine r_iload_n (pc := 12) d_Gr_makePass_12 (x := (p0 >>> ((1 : Int32) &&& 31))) rfl ?_
  refine r_iload_n (pc := 13) d_Gr_makePass_13 (x := (p0 &&& (1 : Int32))) rfl ?_
  refine r_aload_n (pc := 14) d_Gr_makePass_14 (x := a) rfl ?_
  refine r_iload_n (pc := 15) d_Gr_makePass_15 (x := (p0 >>> ((1 : Int32) &&& 31))) rfl ?_
  refine r_callV (pc := 16) (k := a) (As := [.int (p0 >>> ((1 : Int32) &&& 31))]) (rest := [.int (p0 &&& (1 : Int32)), .int (p0 >>> ((1 : Int32) &&& 31)), .ref r1]) (mc' := 0) (ms' := 0) lk_Gr_92 in_Gr_touching se_Gr_touching sa rfl d_Gr_makePass_16 k_Gr_touching rfl rfl (Nat.le_of_ble_eq_true rfl) (by decide) (by decide) (Sp.mono h ?_)
  rintro rS2 shS2 S2 ⟨qS2, x3, uS2, h⟩
  subst uS2
  rw [qS2]
  obtain ⟨s4, h⟩ := h
  refine r_callV (pc := 19) (k := r1) (As := [.int (p0 >>> ((1 : Int32) &&& 31)), .int (p0 &&& (1 : Int32)), .int x3]) (rest := []) (mc' := 0) (ms' := 0) lk_Gr_95 in_Pl_undoneBy se_Pl_undoneBy s4 rfl d_Gr_makePass_19 k_Pl_undoneBy rfl rfl (Nat.le_of_ble_eq_true rfl) (by decide) (by decide) (Sp.mono h ?_)
  rintro rS5 shS5 S5 ⟨qS5, x6, uS5, h⟩
  subst uS5
  rw [qS5]
  refine r_istore (pc := 22) (hd := d_Gr_makePass_22) (hi := by decide) (ls2 := [.ref a, .int p0, .int (p0 >>> ((1 : Int32) &&& 31)), .int (p0 &&& (1 : Int32)), .int x6, .null, .null, .null]) (h2 := rfl) ?_
  refine r_iload (pc := 24) d_Gr_makePass_24 (x := x6) rfl ?_
  refine r_iconst (pc := 26) d_Gr_makePass_26 (v := (-1)) (by decide) ?_
  refine r_icmp_eq (pc := 27) d_Gr_makePass_27 (tgt := 69) (by decide) (fun c7 => ?_) (fun c7 => ?_)
  · replace h := h.1 c7
    refine r_aload_n (pc := 69) d_Gr_makePass_69 (x := a) rfl ?_
    refine r_iload_n (pc := 70) d_Gr_makePass_70 (x := (p0 >>> ((1 : Int32) &&& 31))) rfl ?_
    refine r_callV (pc := 71) (k := a) (As := [.int (p0 >>> ((1 : Int32) &&& 31))]) (rest := []) (mc' := 0) (ms' := 0) lk_Gr_105 in_Gr_canAdd se_Gr_canAdd sa rfl d_Gr_makePass_71 k_Gr_canAdd rfl rfl (Nat.le_of_ble_eq_true rfl) (by decide) (by decide) (Sp.mono h ?_)
    rintro rS8 shS8 S8 ⟨qS8, x9, uS8, h⟩
    subst uS8
    rw [qS8]
    refine r_if_ne (pc := 74) d_Gr_makePass_74 (tgt := 79) (by decide) (fun c10 => ?_) (fun c10 => ?_)
    · replace h := h.1 c10
      refine r_aload_n (pc := 79) d_Gr_makePass_79 (x := a) rfl ?_
      obtain ⟨r11, er11, h⟩ := h
      refine r_getR (pc := 80) d_Gr_makePass_80 f_Gr_25 sa (Or.inr ⟨_, rfl⟩) (r := r11) er11 ?_
      refine r_iload_n (pc := 83) d_Gr_makePass_83 (x := (p0 >>> ((1 : Int32) &&& 31))) rfl ?_
      obtain ⟨n13, s12, h⟩ := h
      obtain ⟨g14, h⟩ := h
      refine r_iald (pc := 84) d_Gr_makePass_84 s12 g14 ?_
      refine r_istore (pc := 85) (hd := d_Gr_makePass_85) (hi := by decide) (ls2 := [.ref a, .int p0, .int (p0 >>> ((1 : Int32) &&& 31)), .int (p0 &&& (1 : Int32)), .int x6, .int (S8.1 r11 (p0 >>> ((1 : Int32) &&& 31) : Int32).toNatClampNeg), .null, .null]) (h2 := rfl) ?_
      refine r_aload_n (pc := 87) d_Gr_makePass_87 (x := a) rfl ?_
      refine r_getR (pc := 88) d_Gr_makePass_88 f_Gr_25 sa (Or.inr ⟨_, rfl⟩) (r := r11) er11 ?_
      refine r_aload_n (pc := 91) d_Gr_makePass_91 (x := a) rfl ?_
      refine r_iload_n (pc := 92) d_Gr_makePass_92 (x := (p0 >>> ((1 : Int32) &&& 31))) rfl ?_
      refine r_callV (pc := 93) (k := a) (As := [.int (p0 >>> ((1 : Int32) &&& 31))]) (rest := [.ref r11]) (mc' := 0) (ms' := 0) lk_Gr_82 in_Gr_nextPlace se_Gr_nextPlace sa rfl d_Gr_makePass_93 k_Gr_nextPlace rfl rfl (Nat.le_of_ble_eq_true rfl) (by decide) (by decide) (Sp.mono h ?_)
      rintro rS15 shS15 S15 ⟨qS15, x16, uS15, h⟩
      subst uS15
      rw [qS15]
      obtain ⟨g17, h⟩ := h
      refine r_iald (pc := 96) d_Gr_makePass_96 s12 g17 ?_
      refine r_istore (pc := 97) (hd := d_Gr_makePass_97) (hi := by decide) (ls2 := [.ref a, .int p0, .int (p0 >>> ((1 : Int32) &&& 31)), .int (p0 &&& (1 : Int32)), .int x6, .int (S8.1 r11 (p0 >>> ((1 : Int32) &&& 31) : Int32).toNatClampNeg), .int (S15.1 r11 x16.toNatClampNeg), .null]) (h2 := rfl) ?_
      refine r_iload_n (pc := 99) d_Gr_makePass_99 (x := (p0 &&& (1 : Int32))) rfl ?_
      refine r_iconst (pc := 100) d_Gr_makePass_100 (v := 1) (by decide) ?_
      refine r_icmp_ne (pc := 101) d_Gr_makePass_101 (tgt := 109) (by decide) (fun c18 => ?_) (fun c18 => ?_)
      · replace h := h.1 c18
        refine r_iload (pc := 109) d_Gr_makePass_109 (x := (S15.1 r11 x16.toNatClampNeg)) rfl ?_
        refine r_istore (pc := 111) (hd := d_Gr_makePass_111) (hi := by decide) (ls2 := [.ref a, .int p0, .int (p0 >>> ((1 : Int32) &&& 31)), .int (p0 &&& (1 : Int32)), .int x6, .int (S8.1 r11 (p0 >>> ((1 : Int32) &&& 31) : Int32).toNatClampNeg), .int (S15.1 r11 x16.toNatClampNeg), .int (S15.1 r11 x16.toNatClampNeg)]) (h2 := rfl) ?_
        refine r_aload_n (pc := 113) d_Gr_makePass_113 (x := a) rfl ?_
        refine r_aload_n (pc := 114) d_Gr_makePass_114 (x := a) rfl ?_
        obtain ⟨r19, er19, h⟩ := h
        refine r_getR (pc := 115) d_Gr_makePass_115 f_Gr_33 sa (Or.inl ⟨_, rfl⟩) (r := r19) er19 ?_
        obtain ⟨s20, h⟩ := h
        refine r_getI (pc := 118) d_Gr_makePass_118 f_Gr_57 s20 rfl ?_
        refine r_iload_n (pc := 121) d_Gr_makePass_121 (x := (p0 >>> ((1 : Int32) &&& 31))) rfl ?_
        refine r_iload_n (pc := 122) d_Gr_makePass_122 (x := (p0 &&& (1 : Int32))) rfl ?_
        refine r_iload (pc := 123) d_Gr_makePass_123 (x := (S15.1 r11 x16.toNatClampNeg)) rfl ?_
        refine r_iload (pc := 125) d_Gr_makePass_125 (x := (S8.1 r11 (p0 >>> ((1 : Int32) &&& 31) : Int32).toNatClampNeg)) rfl ?_
        refine r_iload (pc := 127) d_Gr_makePass_127 (x := (S15.1 r11 x16.toNatClampNeg)) rfl ?_
        refine r_iadd (pc := 129) d_Gr_makePass_129 ?_
        refine r_iload (pc := 130) d_Gr_makePass_130 (x := (S15.1 r11 x16.toNatClampNeg)) rfl ?_
        refine r_isub (pc := 132) d_Gr_makePass_132 ?_
        refine r_callS (pc := 133) (k := 0) (As := [.int (p0 >>> ((1 : Int32) &&& 31)), .int (p0 &&& (1 : Int32)), .int (S15.1 r11 x16.toNatClampNeg), .int (((S8.1 r11 (p0 >>> ((1 : Int32) &&& 31) : Int32).toNatClampNeg) + (S15.1 r11 x16.toNatClampNeg)) - (S15.1 r11 x16.toNatClampNeg))]) (rest := [.int (S15.1 r19 1), .ref a]) (mc' := 0) (ms' := 0) lk_Gr_109 st_Pl_packed d_Gr_makePass_133 k_Pl_packed rfl rfl (Nat.le_of_ble_eq_true rfl) (by decide) (by decide) (Sp.mono h ?_)
        rintro rS21 shS21 S21 ⟨qS21, x22, uS21, h⟩
        subst uS21
        rw [qS21]
        refine r_callV (pc := 136) (k := a) (As := [.int (S15.1 r19 1), .int x22]) (rest := []) (mc' := 0) (ms' := 0) lk_Gr_113 in_Gr_insertPass se_Gr_insertPass sa rfl d_Gr_makePass_136 k_Gr_insertPass rfl rfl (Nat.le_of_ble_eq_true rfl) (by decide) (by decide) (Sp.mono h ?_)
        rintro rS23 shS23 S23 ⟨qS23, uS23, h⟩
        subst uS23
        rw [qS23]
        refine r_aload_n (pc := 139) d_Gr_makePass_139 (x := a) rfl ?_
        refine r_dup (pc := 140) d_Gr_makePass_140 rfl ?_
        refine r_getI (pc := 141) d_Gr_makePass_141 f_Gr_66 sa rfl ?_
        refine r_iconst (pc := 144) d_Gr_makePass_144 (v := 1) (by decide) ?_
        refine r_iadd (pc := 145) d_Gr_makePass_145 ?_
        refine r_putI (pc := 146) d_Gr_makePass_146 f_Gr_66 sa rfl ?_
        refine r_iconst (pc := 149) d_Gr_makePass_149 (v := 0) (by decide) ?_
        exact r_ireturn (pc := 150) d_Gr_makePass_150 rfl rfl (Nat.le_refl _) ⟨rfl, _, rfl, h⟩
      · replace h := h.2 c18
        refine r_iload (pc := 104) d_Gr_makePass_104 (x := (S8.1 r11 (p0 >>> ((1 : Int32) &&& 31) : Int32).toNatClampNeg)) rfl ?_
        refine r_goto (pc := 106) d_Gr_makePass_106 (tgt := 111) (by decide) ?_
        refine r_istore (pc := 111) (hd := d_Gr_makePass_111) (hi := by decide) (ls2 := [.ref a, .int p0, .int (p0 >>> ((1 : Int32) &&& 31)), .int (p0 &&& (1 : Int32)), .int x6, .int (S8.1 r11 (p0 >>> ((1 : Int32) &&& 31) : Int32).toNatClampNeg), .int (S15.1 r11 x16.toNatClampNeg), .int (S8.1 r11 (p0 >>> ((1 : Int32) &&& 31) : Int32).toNatClampNeg)]) (h2 := rfl) ?_
        refine r_aload_n (pc := 113) d_Gr_makePass_113 (x := a) rfl ?_
        refine r_aload_n (pc := 114) d_Gr_makePass_114 (x := a) rfl ?_
        obtain ⟨r24, er24, h⟩ := h
        refine r_getR (pc := 115) d_Gr_makePass_115 f_Gr_33 sa (Or.inl ⟨_, rfl⟩) (r := r24) er24 ?_
        obtain ⟨s25, h⟩ := h
        refine r_getI (pc := 118) d_Gr_makePass_118 f_Gr_57 s25 rfl ?_
        refine r_iload_n (pc := 121) d_Gr_makePass_121 (x := (p0 >>> ((1 : Int32) &&& 31))) rfl ?_
        refine r_iload_n (pc := 122) d_Gr_makePass_122 (x := (p0 &&& (1 : Int32))) rfl ?_
        refine r_iload (pc := 123) d_Gr_makePass_123 (x := (S8.1 r11 (p0 >>> ((1 : Int32) &&& 31) : Int32).toNatClampNeg)) rfl ?_
        refine r_iload (pc := 125) d_Gr_makePass_125 (x := (S8.1 r11 (p0 >>> ((1 : Int32) &&& 31) : Int32).toNatClampNeg)) rfl ?_
        refine r_iload (pc := 127) d_Gr_makePass_127 (x := (S15.1 r11 x16.toNatClampNeg)) rfl ?_
        refine r_iadd (pc := 129) d_Gr_makePass_129 ?_
        refine r_iload (pc := 130) d_Gr_makePass_130 (x := (S8.1 r11 (p0 >>> ((1 : Int32) &&& 31) : Int32).toNatClampNeg)) rfl ?_
        refine r_isub (pc := 132) d_Gr_makePass_132 ?_
        refine r_callS (pc := 133) (k := 0) (As := [.int (p0 >>> ((1 : Int32) &&& 31)), .int (p0 &&& (1 : Int32)), .int (S8.1 r11 (p0 >>> ((1 : Int32) &&& 31) : Int32).toNatClampNeg), .int (((S8.1 r11 (p0 >>> ((1 : Int32) &&& 31) : Int32).toNatClampNeg) + (S15.1 r11 x16.toNatClampNeg)) - (S8.1 r11 (p0 >>> ((1 : Int32) &&& 31) : Int32).toNatClampNeg))]) (rest := [.int (S15.1 r24 1), .ref a]) (mc' := 0) (ms' := 0) lk_Gr_109 st_Pl_packed d_Gr_makePass_133 k_Pl_packed rfl rfl (Nat.le_of_ble_eq_true rfl) (by decide) (by decide) (Sp.mono h ?_)
        rintro rS26 shS26 S26 ⟨qS26, x27, uS26, h⟩
        subst uS26
        rw [qS26]
        refine r_callV (pc := 136) (k := a) (As := [.int (S15.1 r24 1), .int x27]) (rest := []) (mc' := 0) (ms' := 0) lk_Gr_113 in_Gr_insertPass se_Gr_insertPass sa rfl d_Gr_makePass_136 k_Gr_insertPass rfl rfl (Nat.le_of_ble_eq_true rfl) (by decide) (by decide) (Sp.mono h ?_)
        rintro rS28 shS28 S28 ⟨qS28, uS28, h⟩
        subst uS28
        rw [qS28]
        refine r_aload_n (pc := 139) d_Gr_makePass_139 (x := a) rfl ?_
        refine r_dup (pc := 140) d_Gr_makePass_140 rfl ?_
        refine r_getI (pc := 141) d_Gr_makePass_141 f_Gr_66 sa rfl ?_
        refine r_iconst (pc := 144) d_Gr_makePass_144 (v := 1) (by decide) ?_
        refine r_iadd (pc := 145) d_Gr_makePass_145 ?_
        refine r_putI (pc := 146) d_Gr_makePass_146 f_Gr_66 sa rfl ?_
        refine r_iconst (pc := 149) d_Gr_makePass_149 (v := 0) (by decide) ?_
        exact r_ireturn (pc := 150) d_Gr_makePass_150 rfl rfl (Nat.le_refl _) ⟨rfl, _, rfl, h⟩
    · replace h := h.2 c10
      refine r_iconst (pc := 77) d_Gr_makePass_77 (v := (-1)) (by decide) ?_
      exact r_ireturn (pc := 78) d_Gr_makePass_78 rfl rfl (Nat.le_refl _) ⟨rfl, _, rfl, h⟩
  · replace h := h.2 c7
    refine r_aload_n (pc := 30) d_Gr_makePass_30 (x := a) rfl ?_
    obtain ⟨r29, er29, h⟩ := h
    refine r_getR (pc := 31) d_Gr_makePass_31 f_Gr_33 sa (Or.inl ⟨_, rfl⟩) (r := r29) er29 ?_
    obtain ⟨s30, h⟩ := h
    obtain ⟨r31, er31, h⟩ := h
    refine r_getR (pc := 34) d_Gr_makePass_34 f_Gr_99 s30 (Or.inr ⟨_, rfl⟩) (r := r31) er31 ?_
    refine r_iload (pc := 37) d_Gr_makePass_37 (x := x6) rfl ?_
    obtain ⟨n33, s32, h⟩ := h
    obtain ⟨g34, h⟩ := h
    refine r_iald (pc := 39) d_Gr_makePass_39 s32 g34 ?_
    refine r_istore (pc := 40) (hd := d_Gr_makePass_40) (hi := by decide) (ls2 := [.ref a, .int p0, .int (p0 >>> ((1 : Int32) &&& 31)), .int (p0 &&& (1 : Int32)), .int x6, .int (S5.1 r31 x6.toNatClampNeg), .null, .null]) (h2 := rfl) ?_
    refine r_aload_n (pc := 42) d_Gr_makePass_42 (x := a) rfl ?_
    refine r_iload (pc := 43) d_Gr_makePass_43 (x := x6) rfl ?_
    refine r_callV (pc := 45) (k := a) (As := [.int x6]) (rest := []) (mc' := 0) (ms' := 0) lk_Gr_102 in_Gr_removePass se_Gr_removePass sa rfl d_Gr_makePass_45 k_Gr_removePass rfl rfl (Nat.le_of_ble_eq_true rfl) (by decide) (by decide) (Sp.mono h ?_)
    rintro rS35 shS35 S35 ⟨qS35, uS35, h⟩
    subst uS35
    rw [qS35]
    refine r_aload_n (pc := 48) d_Gr_makePass_48 (x := a) rfl ?_
    refine r_dup (pc := 49) d_Gr_makePass_49 rfl ?_
    refine r_getI (pc := 50) d_Gr_makePass_50 f_Gr_69 sa rfl ?_
    refine r_iconst (pc := 53) d_Gr_makePass_53 (v := 1) (by decide) ?_
    refine r_iadd (pc := 54) d_Gr_makePass_54 ?_
    refine r_putI (pc := 55) d_Gr_makePass_55 f_Gr_69 sa rfl ?_
    refine r_iconst (pc := 58) d_Gr_makePass_58 (v := 1) (by decide) ?_
    refine r_iload (pc := 59) d_Gr_makePass_59 (x := x6) rfl ?_
    refine r_bipush (pc := 61) d_Gr_makePass_61 (v := 10) (by decide) ?_
    refine r_ishl (pc := 63) d_Gr_makePass_63 ?_
    refine r_iload (pc := 64) d_Gr_makePass_64 (x := (S5.1 r31 x6.toNatClampNeg)) rfl ?_
    refine r_ior (pc := 66) d_Gr_makePass_66 ?_
    refine r_iadd (pc := 67) d_Gr_makePass_67 ?_
    exact r_ireturn (pc := 68) d_Gr_makePass_68 rfl rfl (Nat.le_refl _) ⟨rfl, _, rfl, h⟩
set_option maxRecDepth 4000 in
theorem e_Gr_touching {l : Launch} {d : Nat} {sh : aw_SH} {S : aw_S} {P : Int32 → aw_S → Prop} {a : Nat} {p0 : Int32} (sa : sh[a]? = some (0, 2)) (h : ((¬ p0 = 0 → Sp l m_Gr_nextPlace d 0 0 [.ref a, .int p0] sh S (gI sh (fun x3 S2 => P ((((1 : Int32) <<< (p0 &&& 31)) ||| ((1 : Int32) <<< ((p0 - (1 : Int32)) &&& 31))) ||| ((1 : Int32) <<< (x3 &&& 31))) S2))) ∧ (p0 = 0 → Sp l m_Gr_nextPlace d 0 0 [.ref a, .int p0] sh S (gI sh (fun x5 S4 => P ((((1 : Int32) <<< (p0 &&& 31)) ||| ((1 : Int32) <<< (((S.1 a 0) - (1 : Int32)) &&& 31))) ||| ((1 : Int32) <<< (x5 &&& 31))) S4))))) : Sp l m_Gr_touching (d + 1) 0 0 [.ref a, .int p0] sh S (gI sh P) := by
  refine Sp.of k_Gr_touching (ls := [.ref a, .int p0, .null]) rfl (Nat.le_of_ble_eq_true rfl) ?_
  refine r_iload_n (pc := 0) d_Gr_touching_0 (x := p0) rfl ?_
  refine r_if_ne (pc := 1) d_Gr_touching_1 (tgt := 13) (by decide) (fun c1 => ?_) (fun c1 => ?_)
  · replace h := h.1 c1
    refine r_iload_n (pc := 13) d_Gr_touching_13 (x := p0) rfl ?_
    refine r_iconst (pc := 14) d_Gr_touching_14 (v := 1) (by decide) ?_
    refine r_isub (pc := 15) d_Gr_touching_15 ?_
    refine r_istore_n (pc := 16) (hk := rfl) (hd := d_Gr_touching_16) (hi := by decide) (ls2 := [.ref a, .int p0, .int (p0 - (1 : Int32))]) (h2 := rfl) ?_
    refine r_iconst (pc := 17) d_Gr_touching_17 (v := 1) (by decide) ?_
    refine r_iload_n (pc := 18) d_Gr_touching_18 (x := p0) rfl ?_
    refine r_ishl (pc := 19) d_Gr_touching_19 ?_
    refine r_iconst (pc := 20) d_Gr_touching_20 (v := 1) (by decide) ?_
    refine r_iload_n (pc := 21) d_Gr_touching_21 (x := (p0 - (1 : Int32))) rfl ?_
    refine r_ishl (pc := 22) d_Gr_touching_22 ?_
    refine r_ior (pc := 23) d_Gr_touching_23 ?_
    refine r_iconst (pc := 24) d_Gr_touching_24 (v := 1) (by decide) ?_
    refine r_aload_n (pc := 25) d_Gr_touching_25 (x := a) rfl ?_
    refine r_iload_n (pc := 26) d_Gr_touching_26 (x := p0) rfl ?_
    refine r_callV (pc := 27) (k := a) (As := [.int p0]) (rest := [.int 1, .int (((1 : Int32) <<< (p0 &&& 31)) ||| ((1 : Int32) <<< ((p0 - (1 : Int32)) &&& 31)))]) (mc' := 0) (ms' := 0) lk_Gr_82 in_Gr_nextPlace se_Gr_nextPlace sa rfl d_Gr_touching_27 k_Gr_nextPlace rfl rfl (Nat.le_of_ble_eq_true rfl) (by decide) (by decide) (Sp.mono h ?_)
    rintro rS2 shS2 S2 ⟨qS2, x3, uS2, h⟩
    subst uS2
    rw [qS2]
    refine r_ishl (pc := 30) d_Gr_touching_30 ?_
    refine r_ior (pc := 31) d_Gr_touching_31 ?_
    exact r_ireturn (pc := 32) d_Gr_touching_32 rfl rfl (Nat.le_refl _) ⟨rfl, _, rfl, h⟩
  · replace h := h.2 c1
    refine r_aload_n (pc := 4) d_Gr_touching_4 (x := a) rfl ?_
    refine r_getI (pc := 5) d_Gr_touching_5 f_Gr_54 sa rfl ?_
    refine r_iconst (pc := 8) d_Gr_touching_8 (v := 1) (by decide) ?_
    refine r_isub (pc := 9) d_Gr_touching_9 ?_
    refine r_goto (pc := 10) d_Gr_touching_10 (tgt := 16) (by decide) ?_
    refine r_istore_n (pc := 16) (hk := rfl) (hd := d_Gr_touching_16) (hi := by decide) (ls2 := [.ref a, .int p0, .int ((S.1 a 0) - (1 : Int32))]) (h2 := rfl) ?_
    refine r_iconst (pc := 17) d_Gr_touching_17 (v := 1) (by decide) ?_
    refine r_iload_n (pc := 18) d_Gr_touching_18 (x := p0) rfl ?_
    refine r_ishl (pc := 19) d_Gr_touching_19 ?_
    refine r_iconst (pc := 20) d_Gr_touching_20 (v := 1) (by decide) ?_
    refine r_iload_n (pc := 21) d_Gr_touching_21 (x := ((S.1 a 0) - (1 : Int32))) rfl ?_
    refine r_ishl (pc := 22) d_Gr_touching_22 ?_
    refine r_ior (pc := 23) d_Gr_touching_23 ?_
    refine r_iconst (pc := 24) d_Gr_touching_24 (v := 1) (by decide) ?_
    refine r_aload_n (pc := 25) d_Gr_touching_25 (x := a) rfl ?_
    refine r_iload_n (pc := 26) d_Gr_touching_26 (x := p0) rfl ?_
    refine r_callV (pc := 27) (k := a) (As := [.int p0]) (rest := [.int 1, .int (((1 : Int32) <<< (p0 &&& 31)) ||| ((1 : Int32) <<< (((S.1 a 0) - (1 : Int32)) &&& 31)))]) (mc' := 0) (ms' := 0) lk_Gr_82 in_Gr_nextPlace se_Gr_nextPlace sa rfl d_Gr_touching_27 k_Gr_nextPlace rfl rfl (Nat.le_of_ble_eq_true rfl) (by decide) (by decide) (Sp.mono h ?_)
    rintro rS4 shS4 S4 ⟨qS4, x5, uS4, h⟩
    subst uS4
    rw [qS4]
    refine r_ishl (pc := 30) d_Gr_touching_30 ?_
    refine r_ior (pc := 31) d_Gr_touching_31 ?_
    exact r_ireturn (pc := 32) d_Gr_touching_32 rfl rfl (Nat.le_refl _) ⟨rfl, _, rfl, h⟩
set_option maxRecDepth 4000 in
theorem e_Gr_nextPlace {l : Launch} {d : Nat} {sh : aw_SH} {S : aw_S} {P : Int32 → aw_S → Prop} {a : Nat} {p0 : Int32} (sa : sh[a]? = some (0, 2)) (h : (((p0 + (1 : Int32)) < (S.1 a 0) → P (p0 + (1 : Int32)) S) ∧ (¬ (p0 + (1 : Int32)) < (S.1 a 0) → P 0 S))) : Sp l m_Gr_nextPlace (d + 1) 0 0 [.ref a, .int p0] sh S (gI sh P) := by
  refine Sp.of k_Gr_nextPlace (ls := [.ref a, .int p0]) rfl (Nat.le_of_ble_eq_true rfl) ?_
  refine r_iload_n (pc := 0) d_Gr_nextPlace_0 (x := p0) rfl ?_
  refine r_iconst (pc := 1) d_Gr_nextPlace_1 (v := 1) (by decide) ?_
  refine r_iadd (pc := 2) d_Gr_nextPlace_2 ?_
  refine r_aload_n (pc := 3) d_Gr_nextPlace_3 (x := a) rfl ?_
  refine r_getI (pc := 4) d_Gr_nextPlace_4 f_Gr_54 sa rfl ?_
  refine r_icmp_lt (pc := 7) d_Gr_nextPlace_7 (tgt := 14) (by decide) (fun c1 => ?_) (fun c1 => ?_)
  · replace h := h.1 c1
    refine r_iload_n (pc := 14) d_Gr_nextPlace_14 (x := p0) rfl ?_
    refine r_iconst (pc := 15) d_Gr_nextPlace_15 (v := 1) (by decide) ?_
    refine r_iadd (pc := 16) d_Gr_nextPlace_16 ?_
    exact r_ireturn (pc := 17) d_Gr_nextPlace_17 rfl rfl (Nat.le_refl _) ⟨rfl, _, rfl, h⟩
  · replace h := h.2 c1
    refine r_iconst (pc := 10) d_Gr_nextPlace_10 (v := 0) (by decide) ?_
    refine r_goto (pc := 11) d_Gr_nextPlace_11 (tgt := 17) (by decide) ?_
    exact r_ireturn (pc := 17) d_Gr_nextPlace_17 rfl rfl (Nat.le_refl _) ⟨rfl, _, rfl, h⟩
set_option maxRecDepth 4000 in
theorem e_Gr_removePass {l : Launch} {d : Nat} {sh : aw_SH} {S : aw_S} {P : aw_S → Prop} {a : Nat} {p0 : Int32} (sa : sh[a]? = some (0, 2)) (h : ∃ r1, S.2.2 a 8 = some r1 ∧ ∃ r2, S.2.2 a 10 = some r2 ∧ sh[r2]? = some (0, 3) ∧ Sp l m_Pl_upperAt d 0 0 [.ref r2, .int p0] sh S (gI sh (fun x5 S4 => ∃ n7, sh[r1]? = some (3, n7) ∧ vp_in x5 n7 ∧ vp_in x5 n7 ∧ ∃ r10, (aw_uI S4 r1 x5.toNatClampNeg ((S4.1 r1 x5.toNatClampNeg) - (1 : Int32))).2.2 a 8 = some r10 ∧ ∃ r11, (aw_uI S4 r1 x5.toNatClampNeg ((S4.1 r1 x5.toNatClampNeg) - (1 : Int32))).2.2 a 10 = some r11 ∧ sh[r11]? = some (0, 3) ∧ Sp l m_Pl_lowerAt d 0 0 [.ref r11, .int p0] sh (aw_uI S4 r1 x5.toNatClampNeg ((S4.1 r1 x5.toNatClampNeg) - (1 : Int32))) (gI sh (fun x14 S13 => ∃ n16, sh[r10]? = some (3, n16) ∧ vp_in x14 n16 ∧ vp_in x14 n16 ∧ ∃ r19, (aw_uI S13 r10 x14.toNatClampNeg ((S13.1 r10 x14.toNatClampNeg) - (1 : Int32))).2.2 a 10 = some r19 ∧ sh[r19]? = some (0, 3) ∧ Sp l m_Pl_gapAt d 0 0 [.ref r19, .int p0] sh (aw_uI S13 r10 x14.toNatClampNeg ((S13.1 r10 x14.toNatClampNeg) - (1 : Int32))) (gI sh (fun x22 S21 => Sp l m_Gr_changePlaces d 0 0 [.ref a, .int x22] sh S21 (gV sh (fun S23 => ∃ r24, S23.2.2 a 10 = some r24 ∧ sh[r24]? = some (0, 3) ∧ Sp l m_Pl_remove d 0 0 [.ref r24, .int p0] sh S23 (gV sh (fun S26 => P S26))))))))))) : Sp l m_Gr_removePass (d + 1) 0 0 [.ref a, .int p0] sh S (gV sh P) := by
  refine Sp.of k_Gr_removePass (ls := [.ref a, .int p0]) rfl (Nat.le_of_ble_eq_true rfl) ?_
  refine r_aload_n (pc := 0) d_Gr_removePass_0 (x := a) rfl ?_
  obtain ⟨r1, er1, h⟩ := h
  refine r_getR (pc := 1) d_Gr_removePass_1 f_Gr_22 sa (Or.inr ⟨_, rfl⟩) (r := r1) er1 ?_
  refine r_aload_n (pc := 4) d_Gr_removePass_4 (x := a) rfl ?_
  obtain ⟨r2, er2, h⟩ := h
  refine r_getR (pc := 5) d_Gr_removePass_5 f_Gr_33 sa (Or.inl ⟨_, rfl⟩) (r := r2) er2 ?_
  refine r_iload_n (pc := 8) d_Gr_removePass_8 (x := p0) rfl ?_
  obtain ⟨s3, h⟩ := h
  refine r_callV (pc := 9) (k := r2) (As := [.int p0]) (rest := [.ref r1]) (mc' := 0) (ms' := 0) lk_Gr_127 in_Pl_upperAt se_Pl_upperAt s3 rfl d_Gr_removePass_9 k_Pl_upperAt rfl rfl (Nat.le_of_ble_eq_true rfl) (by decide) (by decide) (Sp.mono h ?_)
  rintro rS4 shS4 S4 ⟨qS4, x5, uS4, h⟩
  subst uS4
  rw [qS4]
  refine r_dup2 (pc := 12) d_Gr_removePass_12 rfl rfl ?_
  obtain ⟨n7, s6, h⟩ := h
  obtain ⟨g8, h⟩ := h
  refine r_iald (pc := 13) d_Gr_removePass_13 s6 g8 ?_
  refine r_iconst (pc := 14) d_Gr_removePass_14 (v := 1) (by decide) ?_
  refine r_isub (pc := 15) d_Gr_removePass_15 ?_
  obtain ⟨g9, h⟩ := h
  refine r_iast (pc := 16) d_Gr_removePass_16 s6 g9 ?_
  refine r_aload_n (pc := 17) d_Gr_removePass_17 (x := a) rfl ?_
  obtain ⟨r10, er10, h⟩ := h
  refine r_getR (pc := 18) d_Gr_removePass_18 f_Gr_22 sa (Or.inr ⟨_, rfl⟩) (r := r10) er10 ?_
  refine r_aload_n (pc := 21) d_Gr_removePass_21 (x := a) rfl ?_
  obtain ⟨r11, er11, h⟩ := h
  refine r_getR (pc := 22) d_Gr_removePass_22 f_Gr_33 sa (Or.inl ⟨_, rfl⟩) (r := r11) er11 ?_
  refine r_iload_n (pc := 25) d_Gr_removePass_25 (x := p0) rfl ?_
  obtain ⟨s12, h⟩ := h
  refine r_callV (pc := 26) (k := r11) (As := [.int p0]) (rest := [.ref r10]) (mc' := 0) (ms' := 0) lk_Gr_130 in_Pl_lowerAt se_Pl_lowerAt s12 rfl d_Gr_removePass_26 k_Pl_lowerAt rfl rfl (Nat.le_of_ble_eq_true rfl) (by decide) (by decide) (Sp.mono h ?_)
  rintro rS13 shS13 S13 ⟨qS13, x14, uS13, h⟩
  subst uS13
  rw [qS13]
  refine r_dup2 (pc := 29) d_Gr_removePass_29 rfl rfl ?_
  obtain ⟨n16, s15, h⟩ := h
  obtain ⟨g17, h⟩ := h
  refine r_iald (pc := 30) d_Gr_removePass_30 s15 g17 ?_
  refine r_iconst (pc := 31) d_Gr_removePass_31 (v := 1) (by decide) ?_
  refine r_isub (pc := 32) d_Gr_removePass_32 ?_
  obtain ⟨g18, h⟩ := h
  refine r_iast (pc := 33) d_Gr_removePass_33 s15 g18 ?_
  refine r_aload_n (pc := 34) d_Gr_removePass_34 (x := a) rfl ?_
  refine r_aload_n (pc := 35) d_Gr_removePass_35 (x := a) rfl ?_
  obtain ⟨r19, er19, h⟩ := h
  refine r_getR (pc := 36) d_Gr_removePass_36 f_Gr_33 sa (Or.inl ⟨_, rfl⟩) (r := r19) er19 ?_
  refine r_iload_n (pc := 39) d_Gr_removePass_39 (x := p0) rfl ?_
  obtain ⟨s20, h⟩ := h
  refine r_callV (pc := 40) (k := r19) (As := [.int p0]) (rest := [.ref a]) (mc' := 0) (ms' := 0) lk_Gr_133 in_Pl_gapAt se_Pl_gapAt s20 rfl d_Gr_removePass_40 k_Pl_gapAt rfl rfl (Nat.le_of_ble_eq_true rfl) (by decide) (by decide) (Sp.mono h ?_)
  rintro rS21 shS21 S21 ⟨qS21, x22, uS21, h⟩
  subst uS21
  rw [qS21]
  refine r_callV (pc := 43) (k := a) (As := [.int x22]) (rest := []) (mc' := 0) (ms' := 0) lk_Gr_136 in_Gr_changePlaces se_Gr_changePlaces sa rfl d_Gr_removePass_43 k_Gr_changePlaces rfl rfl (Nat.le_of_ble_eq_true rfl) (by decide) (by decide) (Sp.mono h ?_)
  rintro rS23 shS23 S23 ⟨qS23, uS23, h⟩
  subst uS23
  rw [qS23]
  refine r_aload_n (pc := 46) d_Gr_removePass_46 (x := a) rfl ?_
  obtain ⟨r24, er24, h⟩ := h
  refine r_getR (pc := 47) d_Gr_removePass_47 f_Gr_33 sa (Or.inl ⟨_, rfl⟩) (r := r24) er24 ?_
  refine r_iload_n (pc := 50) d_Gr_removePass_50 (x := p0) rfl ?_
  obtain ⟨s25, h⟩ := h
  refine r_callV (pc := 51) (k := r24) (As := [.int p0]) (rest := []) (mc' := 0) (ms' := 0) lk_Gr_139 in_Pl_remove se_Pl_remove s25 rfl d_Gr_removePass_51 k_Pl_remove rfl rfl (Nat.le_of_ble_eq_true rfl) (by decide) (by decide) (Sp.mono h ?_)
  rintro rS26 shS26 S26 ⟨qS26, uS26, h⟩
  subst uS26
  rw [qS26]
  exact r_return (pc := 54) d_Gr_removePass_54 rfl rfl (Nat.le_refl _) ⟨rfl, rfl, h⟩
set_option maxRecDepth 4000 in
theorem e_Gr_changePlaces {l : Launch} {d : Nat} {sh : aw_SH} {S : aw_S} {P : aw_S → Prop} {a : Nat} {p0 : Int32} (sa : sh[a]? = some (0, 2)) (h : Sp l m_Gr_nextPlace d 0 0 [.ref a, .int p0] sh S (gI sh (fun x2 S1 => ∃ r3, S1.2.2 a 9 = some r3 ∧ ∃ n5, sh[r3]? = some (3, n5) ∧ vp_in p0 n5 ∧ vp_in x2 n5 ∧ vp_in p0 n5 ∧ vp_in x2 n5 ∧ ∃ r10, (aw_uI (aw_uI S1 r3 p0.toNatClampNeg (S1.1 r3 x2.toNatClampNeg)) r3 x2.toNatClampNeg (S1.1 r3 p0.toNatClampNeg)).2.2 a 7 = some r10 ∧ ∃ n12, sh[r10]? = some (3, n12) ∧ vp_in (S1.1 r3 p0.toNatClampNeg) n12 ∧ vp_in p0 n5 ∧ vp_in ((aw_uI (aw_uI (aw_uI S1 r3 p0.toNatClampNeg (S1.1 r3 x2.toNatClampNeg)) r3 x2.toNatClampNeg (S1.1 r3 p0.toNatClampNeg)) r10 ((S1.1 r3 p0.toNatClampNeg : Int32).toNatClampNeg) x2).1 r3 p0.toNatClampNeg) n12 ∧ P (aw_uI (aw_uI (aw_uI (aw_uI S1 r3 p0.toNatClampNeg (S1.1 r3 x2.toNatClampNeg)) r3 x2.toNatClampNeg (S1.1 r3 p0.toNatClampNeg)) r10 ((S1.1 r3 p0.toNatClampNeg : Int32).toNatClampNeg) x2) r10 (((aw_uI (aw_uI (aw_uI S1 r3 p0.toNatClampNeg (S1.1 r3 x2.toNatClampNeg)) r3 x2.toNatClampNeg (S1.1 r3 p0.toNatClampNeg)) r10 ((S1.1 r3 p0.toNatClampNeg : Int32).toNatClampNeg) x2).1 r3 p0.toNatClampNeg : Int32).toNatClampNeg) p0)))) : Sp l m_Gr_changePlaces (d + 1) 0 0 [.ref a, .int p0] sh S (gV sh P) := by
  refine Sp.of k_Gr_changePlaces (ls := [.ref a, .int p0, .null, .null]) rfl (Nat.le_of_ble_eq_true rfl) ?_
  refine r_aload_n (pc := 0) d_Gr_changePlaces_0 (x := a) rfl ?_
  refine r_iload_n (pc := 1) d_Gr_changePlaces_1 (x := p0) rfl ?_
  refine r_callV (pc := 2) (k := a) (As := [.int p0]) (rest := []) (mc' := 0) (ms' := 0) lk_Gr_82 in_Gr_nextPlace se_Gr_nextPlace sa rfl d_Gr_changePlaces_2 k_Gr_nextPlace rfl rfl (Nat.le_of_ble_eq_true rfl) (by decide) (by decide) (Sp.mono h ?_)
  rintro rS1 shS1 S1 ⟨qS1, x2, uS1, h⟩
  subst uS1
  rw [qS1]
  refine r_istore_n (pc := 5) (hk := rfl) (hd := d_Gr_changePlaces_5) (hi := by decide) (ls2 := [.ref a, .int p0, .int x2, .null]) (h2 := rfl) ?_
  refine r_aload_n (pc := 6) d_Gr_changePlaces_6 (x := a) rfl ?_
  obtain ⟨r3, er3, h⟩ := h
  refine r_getR (pc := 7) d_Gr_changePlaces_7 f_Gr_25 sa (Or.inr ⟨_, rfl⟩) (r := r3) er3 ?_
  refine r_iload_n (pc := 10) d_Gr_changePlaces_10 (x := p0) rfl ?_
  obtain ⟨n5, s4, h⟩ := h
  obtain ⟨g6, h⟩ := h
  refine r_iald (pc := 11) d_Gr_changePlaces_11 s4 g6 ?_
  refine r_istore_n (pc := 12) (hk := rfl) (hd := d_Gr_changePlaces_12) (hi := by decide) (ls2 := [.ref a, .int p0, .int x2, .int (S1.1 r3 p0.toNatClampNeg)]) (h2 := rfl) ?_
  refine r_aload_n (pc := 13) d_Gr_changePlaces_13 (x := a) rfl ?_
  refine r_getR (pc := 14) d_Gr_changePlaces_14 f_Gr_25 sa (Or.inr ⟨_, rfl⟩) (r := r3) er3 ?_
  refine r_iload_n (pc := 17) d_Gr_changePlaces_17 (x := p0) rfl ?_
  refine r_aload_n (pc := 18) d_Gr_changePlaces_18 (x := a) rfl ?_
  refine r_getR (pc := 19) d_Gr_changePlaces_19 f_Gr_25 sa (Or.inr ⟨_, rfl⟩) (r := r3) er3 ?_
  refine r_iload_n (pc := 22) d_Gr_changePlaces_22 (x := x2) rfl ?_
  obtain ⟨g7, h⟩ := h
  refine r_iald (pc := 23) d_Gr_changePlaces_23 s4 g7 ?_
  obtain ⟨g8, h⟩ := h
  refine r_iast (pc := 24) d_Gr_changePlaces_24 s4 g8 ?_
  refine r_aload_n (pc := 25) d_Gr_changePlaces_25 (x := a) rfl ?_
  refine r_getR (pc := 26) d_Gr_changePlaces_26 f_Gr_25 sa (Or.inr ⟨_, rfl⟩) (r := r3) er3 ?_
  refine r_iload_n (pc := 29) d_Gr_changePlaces_29 (x := x2) rfl ?_
  refine r_iload_n (pc := 30) d_Gr_changePlaces_30 (x := (S1.1 r3 p0.toNatClampNeg)) rfl ?_
  obtain ⟨g9, h⟩ := h
  refine r_iast (pc := 31) d_Gr_changePlaces_31 s4 g9 ?_
  refine r_aload_n (pc := 32) d_Gr_changePlaces_32 (x := a) rfl ?_
  obtain ⟨r10, er10, h⟩ := h
  refine r_getR (pc := 33) d_Gr_changePlaces_33 f_Gr_19 sa (Or.inr ⟨_, rfl⟩) (r := r10) er10 ?_
  refine r_iload_n (pc := 36) d_Gr_changePlaces_36 (x := (S1.1 r3 p0.toNatClampNeg)) rfl ?_
  refine r_iload_n (pc := 37) d_Gr_changePlaces_37 (x := x2) rfl ?_
  obtain ⟨n12, s11, h⟩ := h
  obtain ⟨g13, h⟩ := h
  refine r_iast (pc := 38) d_Gr_changePlaces_38 s11 g13 ?_
  refine r_aload_n (pc := 39) d_Gr_changePlaces_39 (x := a) rfl ?_
  refine r_getR (pc := 40) d_Gr_changePlaces_40 f_Gr_19 sa (Or.inr ⟨_, rfl⟩) (r := r10) er10 ?_
  refine r_aload_n (pc := 43) d_Gr_changePlaces_43 (x := a) rfl ?_
  refine r_getR (pc := 44) d_Gr_changePlaces_44 f_Gr_25 sa (Or.inr ⟨_, rfl⟩) (r := r3) er3 ?_
  refine r_iload_n (pc := 47) d_Gr_changePlaces_47 (x := p0) rfl ?_
  obtain ⟨g14, h⟩ := h
  refine r_iald (pc := 48) d_Gr_changePlaces_48 s4 g14 ?_
  refine r_iload_n (pc := 49) d_Gr_changePlaces_49 (x := p0) rfl ?_
  obtain ⟨g15, h⟩ := h
  refine r_iast (pc := 50) d_Gr_changePlaces_50 s11 g15 ?_
  exact r_return (pc := 51) d_Gr_changePlaces_51 rfl rfl (Nat.le_refl _) ⟨rfl, rfl, h⟩
set_option maxRecDepth 4000 in
theorem e_Gr_canAdd {l : Launch} {d : Nat} {sh : aw_SH} {S : aw_S} {P : Int32 → aw_S → Prop} {a : Nat} {p0 : Int32} (sa : sh[a]? = some (0, 2)) (h : Sp l m_Gr_nextPlace d 0 0 [.ref a, .int p0] sh S (gI sh (fun x2 S1 => ∃ r3, S1.2.2 a 10 = some r3 ∧ sh[r3]? = some (0, 3) ∧ ((40 ≤ (S1.1 r3 1) → P 0 S1) ∧ (¬ 40 ≤ (S1.1 r3 1) → ∃ r6, S1.2.2 a 8 = some r6 ∧ ∃ r7, S1.2.2 a 9 = some r7 ∧ ∃ n9, sh[r7]? = some (3, n9) ∧ vp_in p0 n9 ∧ ∃ n12, sh[r6]? = some (3, n12) ∧ vp_in (S1.1 r7 p0.toNatClampNeg) n12 ∧ (((S1.1 a 2) ≤ (S1.1 r6 (S1.1 r7 p0.toNatClampNeg : Int32).toNatClampNeg) → P 0 S1) ∧ (¬ (S1.1 a 2) ≤ (S1.1 r6 (S1.1 r7 p0.toNatClampNeg : Int32).toNatClampNeg) → vp_in x2 n9 ∧ vp_in (S1.1 r7 x2.toNatClampNeg) n12 ∧ (((S1.1 a 2) ≤ (S1.1 r6 (S1.1 r7 x2.toNatClampNeg : Int32).toNatClampNeg) → P 0 S1) ∧ (¬ (S1.1 a 2) ≤ (S1.1 r6 (S1.1 r7 x2.toNatClampNeg : Int32).toNatClampNeg) → P 1 S1))))))))) : Sp l m_Gr_canAdd (d + 1) 0 0 [.ref a, .int p0] sh S (gI sh P) := by
  refine Sp.of k_Gr_canAdd (ls := [.ref a, .int p0, .null]) rfl (Nat.le_of_ble_eq_true rfl) ?_
  refine r_aload_n (pc := 0) d_Gr_canAdd_0 (x := a) rfl ?_
  refine r_iload_n (pc := 1) d_Gr_canAdd_1 (x := p0) rfl ?_
  refine r_callV (pc := 2) (k := a) (As := [.int p0]) (rest := []) (mc' := 0) (ms' := 0) lk_Gr_82 in_Gr_nextPlace se_Gr_nextPlace sa rfl d_Gr_canAdd_2 k_Gr_nextPlace rfl rfl (Nat.le_of_ble_eq_true rfl) (by decide) (by decide) (Sp.mono h ?_)
  rintro rS1 shS1 S1 ⟨qS1, x2, uS1, h⟩
  subst uS1
  rw [qS1]
  refine r_istore_n (pc := 5) (hk := rfl) (hd := d_Gr_canAdd_5) (hi := by decide) (ls2 := [.ref a, .int p0, .int x2]) (h2 := rfl) ?_
  refine r_aload_n (pc := 6) d_Gr_canAdd_6 (x := a) rfl ?_
  obtain ⟨r3, er3, h⟩ := h
  refine r_getR (pc := 7) d_Gr_canAdd_7 f_Gr_33 sa (Or.inl ⟨_, rfl⟩) (r := r3) er3 ?_
  obtain ⟨s4, h⟩ := h
  refine r_getI (pc := 10) d_Gr_canAdd_10 f_Gr_57 s4 rfl ?_
  refine r_bipush (pc := 13) d_Gr_canAdd_13 (v := 40) (by decide) ?_
  refine r_icmp_ge (pc := 15) d_Gr_canAdd_15 (tgt := 58) (by decide) (fun c5 => ?_) (fun c5 => ?_)
  · replace h := h.1 c5
    refine r_iconst (pc := 58) d_Gr_canAdd_58 (v := 0) (by decide) ?_
    exact r_zreturn (pc := 59) d_Gr_canAdd_59 (v := 0) rfl (by decide) rfl (Nat.le_refl _) ⟨rfl, _, rfl, h⟩
  · replace h := h.2 c5
    refine r_aload_n (pc := 18) d_Gr_canAdd_18 (x := a) rfl ?_
    obtain ⟨r6, er6, h⟩ := h
    refine r_getR (pc := 19) d_Gr_canAdd_19 f_Gr_22 sa (Or.inr ⟨_, rfl⟩) (r := r6) er6 ?_
    refine r_aload_n (pc := 22) d_Gr_canAdd_22 (x := a) rfl ?_
    obtain ⟨r7, er7, h⟩ := h
    refine r_getR (pc := 23) d_Gr_canAdd_23 f_Gr_25 sa (Or.inr ⟨_, rfl⟩) (r := r7) er7 ?_
    refine r_iload_n (pc := 26) d_Gr_canAdd_26 (x := p0) rfl ?_
    obtain ⟨n9, s8, h⟩ := h
    obtain ⟨g10, h⟩ := h
    refine r_iald (pc := 27) d_Gr_canAdd_27 s8 g10 ?_
    obtain ⟨n12, s11, h⟩ := h
    obtain ⟨g13, h⟩ := h
    refine r_iald (pc := 28) d_Gr_canAdd_28 s11 g13 ?_
    refine r_aload_n (pc := 29) d_Gr_canAdd_29 (x := a) rfl ?_
    refine r_getI (pc := 30) d_Gr_canAdd_30 f_Gr_51 sa rfl ?_
    refine r_icmp_ge (pc := 33) d_Gr_canAdd_33 (tgt := 58) (by decide) (fun c14 => ?_) (fun c14 => ?_)
    · replace h := h.1 c14
      refine r_iconst (pc := 58) d_Gr_canAdd_58 (v := 0) (by decide) ?_
      exact r_zreturn (pc := 59) d_Gr_canAdd_59 (v := 0) rfl (by decide) rfl (Nat.le_refl _) ⟨rfl, _, rfl, h⟩
    · replace h := h.2 c14
      refine r_aload_n (pc := 36) d_Gr_canAdd_36 (x := a) rfl ?_
      refine r_getR (pc := 37) d_Gr_canAdd_37 f_Gr_22 sa (Or.inr ⟨_, rfl⟩) (r := r6) er6 ?_
      refine r_aload_n (pc := 40) d_Gr_canAdd_40 (x := a) rfl ?_
      refine r_getR (pc := 41) d_Gr_canAdd_41 f_Gr_25 sa (Or.inr ⟨_, rfl⟩) (r := r7) er7 ?_
      refine r_iload_n (pc := 44) d_Gr_canAdd_44 (x := x2) rfl ?_
      obtain ⟨g15, h⟩ := h
      refine r_iald (pc := 45) d_Gr_canAdd_45 s8 g15 ?_
      obtain ⟨g16, h⟩ := h
      refine r_iald (pc := 46) d_Gr_canAdd_46 s11 g16 ?_
      refine r_aload_n (pc := 47) d_Gr_canAdd_47 (x := a) rfl ?_
      refine r_getI (pc := 48) d_Gr_canAdd_48 f_Gr_51 sa rfl ?_
      refine r_icmp_ge (pc := 51) d_Gr_canAdd_51 (tgt := 58) (by decide) (fun c17 => ?_) (fun c17 => ?_)
      · replace h := h.1 c17
        refine r_iconst (pc := 58) d_Gr_canAdd_58 (v := 0) (by decide) ?_
        exact r_zreturn (pc := 59) d_Gr_canAdd_59 (v := 0) rfl (by decide) rfl (Nat.le_refl _) ⟨rfl, _, rfl, h⟩
      · replace h := h.2 c17
        refine r_iconst (pc := 54) d_Gr_canAdd_54 (v := 1) (by decide) ?_
        refine r_goto (pc := 55) d_Gr_canAdd_55 (tgt := 59) (by decide) ?_
        exact r_zreturn (pc := 59) d_Gr_canAdd_59 (v := 1) rfl (by decide) rfl (Nat.le_refl _) ⟨rfl, _, rfl, h⟩
set_option maxRecDepth 4000 in
theorem e_Gr_insertPass {l : Launch} {d : Nat} {sh : aw_SH} {S : aw_S} {P : aw_S → Prop} {a : Nat} {p0 : Int32} {p1 : Int32} (sa : sh[a]? = some (0, 2)) (h : ∃ r1, S.2.2 a 10 = some r1 ∧ sh[r1]? = some (0, 3) ∧ Sp l m_Pl_insert d 0 0 [.ref r1, .int p0, .int p1] sh S (gV sh (fun S3 => ∃ r4, S3.2.2 a 8 = some r4 ∧ ∃ r5, S3.2.2 a 10 = some r5 ∧ sh[r5]? = some (0, 3) ∧ Sp l m_Pl_upperAt d 0 0 [.ref r5, .int p0] sh S3 (gI sh (fun x8 S7 => ∃ n10, sh[r4]? = some (3, n10) ∧ vp_in x8 n10 ∧ vp_in x8 n10 ∧ ∃ r13, (aw_uI S7 r4 x8.toNatClampNeg ((S7.1 r4 x8.toNatClampNeg) + (1 : Int32))).2.2 a 8 = some r13 ∧ ∃ r14, (aw_uI S7 r4 x8.toNatClampNeg ((S7.1 r4 x8.toNatClampNeg) + (1 : Int32))).2.2 a 10 = some r14 ∧ sh[r14]? = some (0, 3) ∧ Sp l m_Pl_lowerAt d 0 0 [.ref r14, .int p0] sh (aw_uI S7 r4 x8.toNatClampNeg ((S7.1 r4 x8.toNatClampNeg) + (1 : Int32))) (gI sh (fun x17 S16 => ∃ n19, sh[r13]? = some (3, n19) ∧ vp_in x17 n19 ∧ vp_in x17 n19 ∧ ∃ r22, (aw_uI S16 r13 x17.toNatClampNeg ((S16.1 r13 x17.toNatClampNeg) + (1 : Int32))).2.2 a 10 = some r22 ∧ sh[r22]? = some (0, 3) ∧ Sp l m_Pl_gapAt d 0 0 [.ref r22, .int p0] sh (aw_uI S16 r13 x17.toNatClampNeg ((S16.1 r13 x17.toNatClampNeg) + (1 : Int32))) (gI sh (fun x25 S24 => Sp l m_Gr_changePlaces d 0 0 [.ref a, .int x25] sh S24 (gV sh (fun S26 => P S26))))))))))) : Sp l m_Gr_insertPass (d + 1) 0 0 [.ref a, .int p0, .int p1] sh S (gV sh P) := by
  refine Sp.of k_Gr_insertPass (ls := [.ref a, .int p0, .int p1]) rfl (Nat.le_of_ble_eq_true rfl) ?_
  refine r_aload_n (pc := 0) d_Gr_insertPass_0 (x := a) rfl ?_
  obtain ⟨r1, er1, h⟩ := h
  refine r_getR (pc := 1) d_Gr_insertPass_1 f_Gr_33 sa (Or.inl ⟨_, rfl⟩) (r := r1) er1 ?_
  refine r_iload_n (pc := 4) d_Gr_insertPass_4 (x := p0) rfl ?_
  refine r_iload_n (pc := 5) d_Gr_insertPass_5 (x := p1) rfl ?_
  obtain ⟨s2, h⟩ := h
  refine r_callV (pc := 6) (k := r1) (As := [.int p0, .int p1]) (rest := []) (mc' := 0) (ms' := 0) lk_Gr_124 in_Pl_insert se_Pl_insert s2 rfl d_Gr_insertPass_6 k_Pl_insert rfl rfl (Nat.le_of_ble_eq_true rfl) (by decide) (by decide) (Sp.mono h ?_)
  rintro rS3 shS3 S3 ⟨qS3, uS3, h⟩
  subst uS3
  rw [qS3]
  refine r_aload_n (pc := 9) d_Gr_insertPass_9 (x := a) rfl ?_
  obtain ⟨r4, er4, h⟩ := h
  refine r_getR (pc := 10) d_Gr_insertPass_10 f_Gr_22 sa (Or.inr ⟨_, rfl⟩) (r := r4) er4 ?_
  refine r_aload_n (pc := 13) d_Gr_insertPass_13 (x := a) rfl ?_
  obtain ⟨r5, er5, h⟩ := h
  refine r_getR (pc := 14) d_Gr_insertPass_14 f_Gr_33 sa (Or.inl ⟨_, rfl⟩) (r := r5) er5 ?_
  refine r_iload_n (pc := 17) d_Gr_insertPass_17 (x := p0) rfl ?_
  obtain ⟨s6, h⟩ := h
  refine r_callV (pc := 18) (k := r5) (As := [.int p0]) (rest := [.ref r4]) (mc' := 0) (ms' := 0) lk_Gr_127 in_Pl_upperAt se_Pl_upperAt s6 rfl d_Gr_insertPass_18 k_Pl_upperAt rfl rfl (Nat.le_of_ble_eq_true rfl) (by decide) (by decide) (Sp.mono h ?_)
  rintro rS7 shS7 S7 ⟨qS7, x8, uS7, h⟩
  subst uS7
  rw [qS7]
  refine r_dup2 (pc := 21) d_Gr_insertPass_21 rfl rfl ?_
  obtain ⟨n10, s9, h⟩ := h
  obtain ⟨g11, h⟩ := h
  refine r_iald (pc := 22) d_Gr_insertPass_22 s9 g11 ?_
  refine r_iconst (pc := 23) d_Gr_insertPass_23 (v := 1) (by decide) ?_
  refine r_iadd (pc := 24) d_Gr_insertPass_24 ?_
  obtain ⟨g12, h⟩ := h
  refine r_iast (pc := 25) d_Gr_insertPass_25 s9 g12 ?_
  refine r_aload_n (pc := 26) d_Gr_insertPass_26 (x := a) rfl ?_
  obtain ⟨r13, er13, h⟩ := h
  refine r_getR (pc := 27) d_Gr_insertPass_27 f_Gr_22 sa (Or.inr ⟨_, rfl⟩) (r := r13) er13 ?_
  refine r_aload_n (pc := 30) d_Gr_insertPass_30 (x := a) rfl ?_
  obtain ⟨r14, er14, h⟩ := h
  refine r_getR (pc := 31) d_Gr_insertPass_31 f_Gr_33 sa (Or.inl ⟨_, rfl⟩) (r := r14) er14 ?_
  refine r_iload_n (pc := 34) d_Gr_insertPass_34 (x := p0) rfl ?_
  obtain ⟨s15, h⟩ := h
  refine r_callV (pc := 35) (k := r14) (As := [.int p0]) (rest := [.ref r13]) (mc' := 0) (ms' := 0) lk_Gr_130 in_Pl_lowerAt se_Pl_lowerAt s15 rfl d_Gr_insertPass_35 k_Pl_lowerAt rfl rfl (Nat.le_of_ble_eq_true rfl) (by decide) (by decide) (Sp.mono h ?_)
  rintro rS16 shS16 S16 ⟨qS16, x17, uS16, h⟩
  subst uS16
  rw [qS16]
  refine r_dup2 (pc := 38) d_Gr_insertPass_38 rfl rfl ?_
  obtain ⟨n19, s18, h⟩ := h
  obtain ⟨g20, h⟩ := h
  refine r_iald (pc := 39) d_Gr_insertPass_39 s18 g20 ?_
  refine r_iconst (pc := 40) d_Gr_insertPass_40 (v := 1) (by decide) ?_
  refine r_iadd (pc := 41) d_Gr_insertPass_41 ?_
  obtain ⟨g21, h⟩ := h
  refine r_iast (pc := 42) d_Gr_insertPass_42 s18 g21 ?_
  refine r_aload_n (pc := 43) d_Gr_insertPass_43 (x := a) rfl ?_
  refine r_aload_n (pc := 44) d_Gr_insertPass_44 (x := a) rfl ?_
  obtain ⟨r22, er22, h⟩ := h
  refine r_getR (pc := 45) d_Gr_insertPass_45 f_Gr_33 sa (Or.inl ⟨_, rfl⟩) (r := r22) er22 ?_
  refine r_iload_n (pc := 48) d_Gr_insertPass_48 (x := p0) rfl ?_
  obtain ⟨s23, h⟩ := h
  refine r_callV (pc := 49) (k := r22) (As := [.int p0]) (rest := [.ref a]) (mc' := 0) (ms' := 0) lk_Gr_133 in_Pl_gapAt se_Pl_gapAt s23 rfl d_Gr_insertPass_49 k_Pl_gapAt rfl rfl (Nat.le_of_ble_eq_true rfl) (by decide) (by decide) (Sp.mono h ?_)
  rintro rS24 shS24 S24 ⟨qS24, x25, uS24, h⟩
  subst uS24
  rw [qS24]
  refine r_callV (pc := 52) (k := a) (As := [.int x25]) (rest := []) (mc' := 0) (ms' := 0) lk_Gr_136 in_Gr_changePlaces se_Gr_changePlaces sa rfl d_Gr_insertPass_52 k_Gr_changePlaces rfl rfl (Nat.le_of_ble_eq_true rfl) (by decide) (by decide) (Sp.mono h ?_)
  rintro rS26 shS26 S26 ⟨qS26, uS26, h⟩
  subst uS26
  rw [qS26]
  exact r_return (pc := 55) d_Gr_insertPass_55 rfl rfl (Nat.le_refl _) ⟨rfl, rfl, h⟩
set_option maxRecDepth 4000 in
theorem e_Gr_greatestRow {l : Launch} {d : Nat} {sh : aw_SH} {S : aw_S} {P : Int32 → aw_S → Prop} {a : Nat} (sa : sh[a]? = some (0, 2)) (h : ∃ r1, S.2.2 a 10 = some r1 ∧ sh[r1]? = some (0, 3) ∧ Sp l m_Gr_rowAt d 0 0 [.ref a, .int ((S.1 r1 1) - (1 : Int32))] sh S (gI sh (fun x4 S3 => AW l m_Gr_greatestRow (d + 1) 0 0 (gI sh P) 0 0 18 [.ref a, .int 0, .int 0] [] sh S3))) : Sp l m_Gr_greatestRow (d + 1) 0 0 [.ref a] sh S (gI sh P) := by
  refine Sp.of k_Gr_greatestRow (ls := [.ref a, .null, .null]) rfl (Nat.le_of_ble_eq_true rfl) ?_
  refine r_aload_n (pc := 0) d_Gr_greatestRow_0 (x := a) rfl ?_
  refine r_aload_n (pc := 1) d_Gr_greatestRow_1 (x := a) rfl ?_
  obtain ⟨r1, er1, h⟩ := h
  refine r_getR (pc := 2) d_Gr_greatestRow_2 f_Gr_33 sa (Or.inl ⟨_, rfl⟩) (r := r1) er1 ?_
  obtain ⟨s2, h⟩ := h
  refine r_getI (pc := 5) d_Gr_greatestRow_5 f_Gr_57 s2 rfl ?_
  refine r_iconst (pc := 8) d_Gr_greatestRow_8 (v := 1) (by decide) ?_
  refine r_isub (pc := 9) d_Gr_greatestRow_9 ?_
  refine r_callV (pc := 10) (k := a) (As := [.int ((S.1 r1 1) - (1 : Int32))]) (rest := []) (mc' := 0) (ms' := 0) lk_Gr_162 in_Gr_rowAt se_Gr_rowAt sa rfl d_Gr_greatestRow_10 k_Gr_rowAt rfl rfl (Nat.le_of_ble_eq_true rfl) (by decide) (by decide) (Sp.mono h ?_)
  rintro rS3 shS3 S3 ⟨qS3, x4, uS3, h⟩
  subst uS3
  rw [qS3]
  refine r_pop (pc := 13) d_Gr_greatestRow_13 rfl ?_
  refine r_iconst (pc := 14) d_Gr_greatestRow_14 (v := 0) (by decide) ?_
  refine r_istore_n (pc := 15) (hk := rfl) (hd := d_Gr_greatestRow_15) (hi := by decide) (ls2 := [.ref a, .int 0, .null]) (h2 := rfl) ?_
  refine r_iconst (pc := 16) d_Gr_greatestRow_16 (v := 0) (by decide) ?_
  refine r_istore_n (pc := 17) (hk := rfl) (hd := d_Gr_greatestRow_17) (hi := by decide) (ls2 := [.ref a, .int 0, .int 0]) (h2 := rfl) ?_
  exact h
set_option maxRecDepth 4000 in
theorem s_Gr_greatestRow_18 {l : Launch} {d : Nat} {sh : aw_SH} {S : aw_S} {P : Int32 → aw_S → Prop} {a : Nat} {i1 : Int32} {i2 : Int32} (sa : sh[a]? = some (0, 2)) (h : ((7 ≤ i2 → P i1 S) ∧ (¬ 7 ≤ i2 → ∃ r2, S.2.2 a 12 = some r2 ∧ ∃ n4, sh[r2]? = some (3, n4) ∧ vp_in i2 n4 ∧ Sp l m_Ma_max d 0 0 [.int i1, .int (S.1 r2 i2.toNatClampNeg)] sh S (gI sh (fun x7 S6 => AW l m_Gr_greatestRow (d + 1) 0 0 (gI sh P) 0 0 18 [.ref a, .int x7, .int (i2 + 1)] [] sh S6))))) : AW l m_Gr_greatestRow (d + 1) 0 0 (gI sh P) 0 0 18 [.ref a, .int i1, .int i2] [] sh S := by
  refine r_iload_n (pc := 18) d_Gr_greatestRow_18 (x := i2) rfl ?_
  refine r_bipush (pc := 19) d_Gr_greatestRow_19 (v := 7) (by decide) ?_
  refine r_icmp_ge (pc := 21) d_Gr_greatestRow_21 (tgt := 41) (by decide) (fun c1 => ?_) (fun c1 => ?_)
  · replace h := h.1 c1
    refine r_iload_n (pc := 41) d_Gr_greatestRow_41 (x := i1) rfl ?_
    exact r_ireturn (pc := 42) d_Gr_greatestRow_42 rfl rfl (Nat.le_refl _) ⟨rfl, _, rfl, h⟩
  · replace h := h.2 c1
    refine r_iload_n (pc := 24) d_Gr_greatestRow_24 (x := i1) rfl ?_
    refine r_aload_n (pc := 25) d_Gr_greatestRow_25 (x := a) rfl ?_
    obtain ⟨r2, er2, h⟩ := h
    refine r_getR (pc := 26) d_Gr_greatestRow_26 f_Gr_44 sa (Or.inr ⟨_, rfl⟩) (r := r2) er2 ?_
    refine r_iload_n (pc := 29) d_Gr_greatestRow_29 (x := i2) rfl ?_
    obtain ⟨n4, s3, h⟩ := h
    obtain ⟨g5, h⟩ := h
    refine r_iald (pc := 30) d_Gr_greatestRow_30 s3 g5 ?_
    refine r_callS (pc := 31) (k := 0) (As := [.int i1, .int (S.1 r2 i2.toNatClampNeg)]) (rest := []) (mc' := 0) (ms' := 0) lk_Gr_86 st_Ma_max d_Gr_greatestRow_31 k_Ma_max rfl rfl (Nat.le_of_ble_eq_true rfl) (by decide) (by decide) (Sp.mono h ?_)
    rintro rS6 shS6 S6 ⟨qS6, x7, uS6, h⟩
    subst uS6
    rw [qS6]
    refine r_istore_n (pc := 34) (hk := rfl) (hd := d_Gr_greatestRow_34) (hi := by decide) (ls2 := [.ref a, .int x7, .int i2]) (h2 := rfl) ?_
    refine r_iinc (pc := 35) d_Gr_greatestRow_35 (hi := by decide) (x := i2) rfl (v := i2 + 1) rfl (ls2 := [.ref a, .int x7, .int (i2 + 1)]) rfl ?_
    refine r_goto (pc := 38) d_Gr_greatestRow_38 (tgt := 18) (by decide) ?_
    exact h
set_option maxRecDepth 4000 in
theorem e_Gr_rowAt {l : Launch} {d : Nat} {sh : aw_SH} {S : aw_S} {P : Int32 → aw_S → Prop} {a : Nat} {p0 : Int32} (sa : sh[a]? = some (0, 2)) (h : ∃ r1, S.2.2 a 12 = some r1 ∧ Sp l m_Ar_fill_AIIV d 0 0 [.ref r1, .int 0] sh S (gV sh (fun S2 => AW l m_Gr_rowAt (d + 1) 0 0 (gI sh P) 0 0 12 [.ref a, .int p0, .int 0, .int 0, .null, .null] [] sh S2))) : Sp l m_Gr_rowAt (d + 1) 0 0 [.ref a, .int p0] sh S (gI sh P) := by
  refine Sp.of k_Gr_rowAt (ls := [.ref a, .int p0, .null, .null, .null, .null]) rfl (Nat.le_of_ble_eq_true rfl) ?_
  refine r_aload_n (pc := 0) d_Gr_rowAt_0 (x := a) rfl ?_
  obtain ⟨r1, er1, h⟩ := h
  refine r_getR (pc := 1) d_Gr_rowAt_1 f_Gr_44 sa (Or.inr ⟨_, rfl⟩) (r := r1) er1 ?_
  refine r_iconst (pc := 4) d_Gr_rowAt_4 (v := 0) (by decide) ?_
  refine r_callS (pc := 5) (k := 0) (As := [.ref r1, .int 0]) (rest := []) (mc' := 0) (ms' := 0) lk_Gr_148 st_Ar_fill_AIIV d_Gr_rowAt_5 k_Ar_fill_AIIV rfl rfl (Nat.le_of_ble_eq_true rfl) (by decide) (by decide) (Sp.mono h ?_)
  rintro rS2 shS2 S2 ⟨qS2, uS2, h⟩
  subst uS2
  rw [qS2]
  refine r_iconst (pc := 8) d_Gr_rowAt_8 (v := 0) (by decide) ?_
  refine r_istore_n (pc := 9) (hk := rfl) (hd := d_Gr_rowAt_9) (hi := by decide) (ls2 := [.ref a, .int p0, .int 0, .null, .null, .null]) (h2 := rfl) ?_
  refine r_iconst (pc := 10) d_Gr_rowAt_10 (v := 0) (by decide) ?_
  refine r_istore_n (pc := 11) (hk := rfl) (hd := d_Gr_rowAt_11) (hi := by decide) (ls2 := [.ref a, .int p0, .int 0, .int 0, .null, .null]) (h2 := rfl) ?_
  exact h
set_option maxRecDepth 4000 in
theorem s_Gr_rowAt_12 {l : Launch} {d : Nat} {sh : aw_SH} {S : aw_S} {P : Int32 → aw_S → Prop} {a : Nat} {i1 : Int32} {i2 : Int32} {i3 : Int32} (sa : sh[a]? = some (0, 2)) (h : ((i1 < i3 → P i2 S) ∧ (¬ i1 < i3 → ∃ r2, S.2.2 a 10 = some r2 ∧ sh[r2]? = some (0, 3) ∧ Sp l m_Pl_gapAt d 0 0 [.ref r2, .int i3] sh S (gI sh (fun x5 S4 => Sp l m_Gr_touching d 0 0 [.ref a, .int x5] sh S4 (gI sh (fun x7 S6 => AW l m_Gr_rowAt (d + 1) 0 0 (gI sh P) 0 0 36 [.ref a, .int i1, .int 0, .int i3, .int x7, .int 0] [] sh S6))))))) : AW l m_Gr_rowAt (d + 1) 0 0 (gI sh P) 0 0 12 [.ref a, .int i1, .int i2, .int i3, .null, .null] [] sh S := by
  refine r_iload_n (pc := 12) d_Gr_rowAt_12 (x := i3) rfl ?_
  refine r_iload_n (pc := 13) d_Gr_rowAt_13 (x := i1) rfl ?_
  refine r_icmp_gt (pc := 14) d_Gr_rowAt_14 (tgt := 94) (by decide) (fun c1 => ?_) (fun c1 => ?_)
  · replace h := h.1 c1
    refine r_iload_n (pc := 94) d_Gr_rowAt_94 (x := i2) rfl ?_
    exact r_ireturn (pc := 95) d_Gr_rowAt_95 rfl rfl (Nat.le_refl _) ⟨rfl, _, rfl, h⟩
  · replace h := h.2 c1
    refine r_aload_n (pc := 17) d_Gr_rowAt_17 (x := a) rfl ?_
    refine r_aload_n (pc := 18) d_Gr_rowAt_18 (x := a) rfl ?_
    obtain ⟨r2, er2, h⟩ := h
    refine r_getR (pc := 19) d_Gr_rowAt_19 f_Gr_33 sa (Or.inl ⟨_, rfl⟩) (r := r2) er2 ?_
    refine r_iload_n (pc := 22) d_Gr_rowAt_22 (x := i3) rfl ?_
    obtain ⟨s3, h⟩ := h
    refine r_callV (pc := 23) (k := r2) (As := [.int i3]) (rest := [.ref a]) (mc' := 0) (ms' := 0) lk_Gr_133 in_Pl_gapAt se_Pl_gapAt s3 rfl d_Gr_rowAt_23 k_Pl_gapAt rfl rfl (Nat.le_of_ble_eq_true rfl) (by decide) (by decide) (Sp.mono h ?_)
    rintro rS4 shS4 S4 ⟨qS4, x5, uS4, h⟩
    subst uS4
    rw [qS4]
    refine r_callV (pc := 26) (k := a) (As := [.int x5]) (rest := []) (mc' := 0) (ms' := 0) lk_Gr_92 in_Gr_touching se_Gr_touching sa rfl d_Gr_rowAt_26 k_Gr_touching rfl rfl (Nat.le_of_ble_eq_true rfl) (by decide) (by decide) (Sp.mono h ?_)
    rintro rS6 shS6 S6 ⟨qS6, x7, uS6, h⟩
    subst uS6
    rw [qS6]
    refine r_istore (pc := 29) (hd := d_Gr_rowAt_29) (hi := by decide) (ls2 := [.ref a, .int i1, .int i2, .int i3, .int x7, .null]) (h2 := rfl) ?_
    refine r_iconst (pc := 31) d_Gr_rowAt_31 (v := 0) (by decide) ?_
    refine r_istore_n (pc := 32) (hk := rfl) (hd := d_Gr_rowAt_32) (hi := by decide) (ls2 := [.ref a, .int i1, .int 0, .int i3, .int x7, .null]) (h2 := rfl) ?_
    refine r_iconst (pc := 33) d_Gr_rowAt_33 (v := 0) (by decide) ?_
    refine r_istore (pc := 34) (hd := d_Gr_rowAt_34) (hi := by decide) (ls2 := [.ref a, .int i1, .int 0, .int i3, .int x7, .int 0]) (h2 := rfl) ?_
    exact h
set_option maxRecDepth 4000 in
theorem s_Gr_rowAt_36 {l : Launch} {d : Nat} {sh : aw_SH} {S : aw_S} {P : Int32 → aw_S → Prop} {a : Nat} {i1 : Int32} {i2 : Int32} {i3 : Int32} {i4 : Int32} {i5 : Int32} (sa : sh[a]? = some (0, 2)) (h : ((7 ≤ i5 → ∃ r2, S.2.2 a 12 = some r2 ∧ ∃ r3, S.2.2 a 10 = some r3 ∧ sh[r3]? = some (0, 3) ∧ Sp l m_Pl_gapAt d 0 0 [.ref r3, .int i3] sh S (gI sh (fun x6 S5 => ∃ n8, sh[r2]? = some (3, n8) ∧ vp_in x6 n8 ∧ AW l m_Gr_rowAt (d + 1) 0 0 (gI sh P) 0 0 12 [.ref a, .int i1, .int (i2 + 1), .int (i3 + 1), .null, .null] [] sh (aw_uI S5 r2 x6.toNatClampNeg (i2 + 1))))) ∧ (¬ 7 ≤ i5 → ((((i4 >>> (i5 &&& 31)) &&& (1 : Int32)) = 0 → AW l m_Gr_rowAt (d + 1) 0 0 (gI sh P) 0 0 36 [.ref a, .int i1, .int i2, .int i3, .int i4, .int (i5 + 1)] [] sh S) ∧ (¬ ((i4 >>> (i5 &&& 31)) &&& (1 : Int32)) = 0 → ∃ r11, S.2.2 a 12 = some r11 ∧ ∃ n13, sh[r11]? = some (3, n13) ∧ vp_in i5 n13 ∧ Sp l m_Ma_max d 0 0 [.int i2, .int (S.1 r11 i5.toNatClampNeg)] sh S (gI sh (fun x16 S15 => AW l m_Gr_rowAt (d + 1) 0 0 (gI sh P) 0 0 36 [.ref a, .int i1, .int x16, .int i3, .int i4, .int (i5 + 1)] [] sh S15))))))) : AW l m_Gr_rowAt (d + 1) 0 0 (gI sh P) 0 0 36 [.ref a, .int i1, .int i2, .int i3, .int i4, .int i5] [] sh S := by
  refine r_iload (pc := 36) d_Gr_rowAt_36 (x := i5) rfl ?_
  refine r_bipush (pc := 38) d_Gr_rowAt_38 (v := 7) (by decide) ?_
  refine r_icmp_ge (pc := 40) d_Gr_rowAt_40 (tgt := 71) (by decide) (fun c1 => ?_) (fun c1 => ?_)
  · replace h := h.1 c1
    refine r_iinc (pc := 71) d_Gr_rowAt_71 (hi := by decide) (x := i2) rfl (v := i2 + 1) rfl (ls2 := [.ref a, .int i1, .int (i2 + 1), .int i3, .int i4, .int i5]) rfl ?_
    refine r_aload_n (pc := 74) d_Gr_rowAt_74 (x := a) rfl ?_
    obtain ⟨r2, er2, h⟩ := h
    refine r_getR (pc := 75) d_Gr_rowAt_75 f_Gr_44 sa (Or.inr ⟨_, rfl⟩) (r := r2) er2 ?_
    refine r_aload_n (pc := 78) d_Gr_rowAt_78 (x := a) rfl ?_
    obtain ⟨r3, er3, h⟩ := h
    refine r_getR (pc := 79) d_Gr_rowAt_79 f_Gr_33 sa (Or.inl ⟨_, rfl⟩) (r := r3) er3 ?_
    refine r_iload_n (pc := 82) d_Gr_rowAt_82 (x := i3) rfl ?_
    obtain ⟨s4, h⟩ := h
    refine r_callV (pc := 83) (k := r3) (As := [.int i3]) (rest := [.ref r2]) (mc' := 0) (ms' := 0) lk_Gr_133 in_Pl_gapAt se_Pl_gapAt s4 rfl d_Gr_rowAt_83 k_Pl_gapAt rfl rfl (Nat.le_of_ble_eq_true rfl) (by decide) (by decide) (Sp.mono h ?_)
    rintro rS5 shS5 S5 ⟨qS5, x6, uS5, h⟩
    subst uS5
    rw [qS5]
    refine r_iload_n (pc := 86) d_Gr_rowAt_86 (x := (i2 + 1)) rfl ?_
    obtain ⟨n8, s7, h⟩ := h
    obtain ⟨g9, h⟩ := h
    refine r_iast (pc := 87) d_Gr_rowAt_87 s7 g9 ?_
    refine r_iinc (pc := 88) d_Gr_rowAt_88 (hi := by decide) (x := i3) rfl (v := i3 + 1) rfl (ls2 := [.ref a, .int i1, .int (i2 + 1), .int (i3 + 1), .int i4, .int i5]) rfl ?_
    refine r_goto (pc := 91) d_Gr_rowAt_91 (tgt := 12) (by decide) ?_
    exact r_weak (ls2 := [.ref a, .int i1, .int (i2 + 1), .int (i3 + 1), .null, .null]) ⟨Or.inr rfl, Or.inr rfl, Or.inr rfl, Or.inr rfl, Or.inl rfl, Or.inl rfl, trivial⟩ h
  · replace h := h.2 c1
    refine r_iload (pc := 43) d_Gr_rowAt_43 (x := i4) rfl ?_
    refine r_iload (pc := 45) d_Gr_rowAt_45 (x := i5) rfl ?_
    refine r_ishr (pc := 47) d_Gr_rowAt_47 ?_
    refine r_iconst (pc := 48) d_Gr_rowAt_48 (v := 1) (by decide) ?_
    refine r_iand (pc := 49) d_Gr_rowAt_49 ?_
    refine r_if_eq (pc := 50) d_Gr_rowAt_50 (tgt := 65) (by decide) (fun c10 => ?_) (fun c10 => ?_)
    · replace h := h.1 c10
      refine r_iinc (pc := 65) d_Gr_rowAt_65 (hi := by decide) (x := i5) rfl (v := i5 + 1) rfl (ls2 := [.ref a, .int i1, .int i2, .int i3, .int i4, .int (i5 + 1)]) rfl ?_
      refine r_goto (pc := 68) d_Gr_rowAt_68 (tgt := 36) (by decide) ?_
      exact h
    · replace h := h.2 c10
      refine r_iload_n (pc := 53) d_Gr_rowAt_53 (x := i2) rfl ?_
      refine r_aload_n (pc := 54) d_Gr_rowAt_54 (x := a) rfl ?_
      obtain ⟨r11, er11, h⟩ := h
      refine r_getR (pc := 55) d_Gr_rowAt_55 f_Gr_44 sa (Or.inr ⟨_, rfl⟩) (r := r11) er11 ?_
      refine r_iload (pc := 58) d_Gr_rowAt_58 (x := i5) rfl ?_
      obtain ⟨n13, s12, h⟩ := h
      obtain ⟨g14, h⟩ := h
      refine r_iald (pc := 60) d_Gr_rowAt_60 s12 g14 ?_
      refine r_callS (pc := 61) (k := 0) (As := [.int i2, .int (S.1 r11 i5.toNatClampNeg)]) (rest := []) (mc' := 0) (ms' := 0) lk_Gr_86 st_Ma_max d_Gr_rowAt_61 k_Ma_max rfl rfl (Nat.le_of_ble_eq_true rfl) (by decide) (by decide) (Sp.mono h ?_)
      rintro rS15 shS15 S15 ⟨qS15, x16, uS15, h⟩
      subst uS15
      rw [qS15]
      refine r_istore_n (pc := 64) (hk := rfl) (hd := d_Gr_rowAt_64) (hi := by decide) (ls2 := [.ref a, .int i1, .int x16, .int i3, .int i4, .int i5]) (h2 := rfl) ?_
      refine r_iinc (pc := 65) d_Gr_rowAt_65 (hi := by decide) (x := i5) rfl (v := i5 + 1) rfl (ls2 := [.ref a, .int i1, .int x16, .int i3, .int i4, .int (i5 + 1)]) rfl ?_
      refine r_goto (pc := 68) d_Gr_rowAt_68 (tgt := 36) (by decide) ?_
      exact h
set_option maxRecDepth 4000 in
theorem e_Gr_atHome {l : Launch} {d : Nat} {sh : aw_SH} {S : aw_S} {P : Int32 → aw_S → Prop} {a : Nat} (sa : sh[a]? = some (0, 2)) (h : AW l m_Gr_atHome (d + 1) 0 0 (gI sh P) 0 0 4 [.ref a, .int 0, .int 0] [] sh S) : Sp l m_Gr_atHome (d + 1) 0 0 [.ref a] sh S (gI sh P) := by
  refine Sp.of k_Gr_atHome (ls := [.ref a, .null, .null]) rfl (Nat.le_of_ble_eq_true rfl) ?_
  refine r_iconst (pc := 0) d_Gr_atHome_0 (v := 0) (by decide) ?_
  refine r_istore_n (pc := 1) (hk := rfl) (hd := d_Gr_atHome_1) (hi := by decide) (ls2 := [.ref a, .int 0, .null]) (h2 := rfl) ?_
  refine r_iconst (pc := 2) d_Gr_atHome_2 (v := 0) (by decide) ?_
  refine r_istore_n (pc := 3) (hk := rfl) (hd := d_Gr_atHome_3) (hi := by decide) (ls2 := [.ref a, .int 0, .int 0]) (h2 := rfl) ?_
  exact h
set_option maxRecDepth 4000 in
theorem s_Gr_atHome_4 {l : Launch} {d : Nat} {sh : aw_SH} {S : aw_S} {P : Int32 → aw_S → Prop} {a : Nat} {i1 : Int32} {i2 : Int32} (sa : sh[a]? = some (0, 2)) (h : (((S.1 a 0) ≤ i2 → P i1 S) ∧ (¬ (S.1 a 0) ≤ i2 → ∃ r2, S.2.2 a 7 = some r2 ∧ ∃ n4, sh[r2]? = some (3, n4) ∧ vp_in i2 n4 ∧ ((¬ (S.1 r2 i2.toNatClampNeg) = i2 → AW l m_Gr_atHome (d + 1) 0 0 (gI sh P) 0 0 4 [.ref a, .int i1, .int (i2 + 1)] [] sh S) ∧ ((S.1 r2 i2.toNatClampNeg) = i2 → AW l m_Gr_atHome (d + 1) 0 0 (gI sh P) 0 0 4 [.ref a, .int (i1 ||| ((1 : Int32) <<< (i2 &&& 31))), .int (i2 + 1)] [] sh S))))) : AW l m_Gr_atHome (d + 1) 0 0 (gI sh P) 0 0 4 [.ref a, .int i1, .int i2] [] sh S := by
  refine r_iload_n (pc := 4) d_Gr_atHome_4 (x := i2) rfl ?_
  refine r_aload_n (pc := 5) d_Gr_atHome_5 (x := a) rfl ?_
  refine r_getI (pc := 6) d_Gr_atHome_6 f_Gr_54 sa rfl ?_
  refine r_icmp_ge (pc := 9) d_Gr_atHome_9 (tgt := 34) (by decide) (fun c1 => ?_) (fun c1 => ?_)
  · replace h := h.1 c1
    refine r_iload_n (pc := 34) d_Gr_atHome_34 (x := i1) rfl ?_
    exact r_ireturn (pc := 35) d_Gr_atHome_35 rfl rfl (Nat.le_refl _) ⟨rfl, _, rfl, h⟩
  · replace h := h.2 c1
    refine r_aload_n (pc := 12) d_Gr_atHome_12 (x := a) rfl ?_
    obtain ⟨r2, er2, h⟩ := h
    refine r_getR (pc := 13) d_Gr_atHome_13 f_Gr_19 sa (Or.inr ⟨_, rfl⟩) (r := r2) er2 ?_
    refine r_iload_n (pc := 16) d_Gr_atHome_16 (x := i2) rfl ?_
    obtain ⟨n4, s3, h⟩ := h
    obtain ⟨g5, h⟩ := h
    refine r_iald (pc := 17) d_Gr_atHome_17 s3 g5 ?_
    refine r_iload_n (pc := 18) d_Gr_atHome_18 (x := i2) rfl ?_
    refine r_icmp_ne (pc := 19) d_Gr_atHome_19 (tgt := 28) (by decide) (fun c6 => ?_) (fun c6 => ?_)
    · replace h := h.1 c6
      refine r_iinc (pc := 28) d_Gr_atHome_28 (hi := by decide) (x := i2) rfl (v := i2 + 1) rfl (ls2 := [.ref a, .int i1, .int (i2 + 1)]) rfl ?_
      refine r_goto (pc := 31) d_Gr_atHome_31 (tgt := 4) (by decide) ?_
      exact h
    · replace h := h.2 c6
      refine r_iload_n (pc := 22) d_Gr_atHome_22 (x := i1) rfl ?_
      refine r_iconst (pc := 23) d_Gr_atHome_23 (v := 1) (by decide) ?_
      refine r_iload_n (pc := 24) d_Gr_atHome_24 (x := i2) rfl ?_
      refine r_ishl (pc := 25) d_Gr_atHome_25 ?_
      refine r_ior (pc := 26) d_Gr_atHome_26 ?_
      refine r_istore_n (pc := 27) (hk := rfl) (hd := d_Gr_atHome_27) (hi := by decide) (ls2 := [.ref a, .int (i1 ||| ((1 : Int32) <<< (i2 &&& 31))), .int i2]) (h2 := rfl) ?_
      refine r_iinc (pc := 28) d_Gr_atHome_28 (hi := by decide) (x := i2) rfl (v := i2 + 1) rfl (ls2 := [.ref a, .int (i1 ||| ((1 : Int32) <<< (i2 &&& 31))), .int (i2 + 1)]) rfl ?_
      refine r_goto (pc := 31) d_Gr_atHome_31 (tgt := 4) (by decide) ?_
      exact h
set_option maxRecDepth 4000 in
theorem e_Gr_freeGaps {l : Launch} {d : Nat} {sh : aw_SH} {S : aw_S} {P : Int32 → aw_S → Prop} {a : Nat} (sa : sh[a]? = some (0, 2)) (h : AW l m_Gr_freeGaps (d + 1) 0 0 (gI sh P) 0 0 4 [.ref a, .int 0, .int 0] [] sh S) : Sp l m_Gr_freeGaps (d + 1) 0 0 [.ref a] sh S (gI sh P) := by
  refine Sp.of k_Gr_freeGaps (ls := [.ref a, .null, .null]) rfl (Nat.le_of_ble_eq_true rfl) ?_
  refine r_iconst (pc := 0) d_Gr_freeGaps_0 (v := 0) (by decide) ?_
  refine r_istore_n (pc := 1) (hk := rfl) (hd := d_Gr_freeGaps_1) (hi := by decide) (ls2 := [.ref a, .int 0, .null]) (h2 := rfl) ?_
  refine r_iconst (pc := 2) d_Gr_freeGaps_2 (v := 0) (by decide) ?_
  refine r_istore_n (pc := 3) (hk := rfl) (hd := d_Gr_freeGaps_3) (hi := by decide) (ls2 := [.ref a, .int 0, .int 0]) (h2 := rfl) ?_
  exact h
set_option maxRecDepth 4000 in
theorem s_Gr_freeGaps_4 {l : Launch} {d : Nat} {sh : aw_SH} {S : aw_S} {P : Int32 → aw_S → Prop} {a : Nat} {i1 : Int32} {i2 : Int32} (sa : sh[a]? = some (0, 2)) (h : ∃ r1, S.2.2 a 10 = some r1 ∧ sh[r1]? = some (0, 3) ∧ (((S.1 r1 1) ≤ i2 → P i1 S) ∧ (¬ (S.1 r1 1) ≤ i2 → Sp l m_Gr_isFree d 0 0 [.ref a, .int i2] sh S (gI sh (fun x5 S4 => ((x5 = 0 → AW l m_Gr_freeGaps (d + 1) 0 0 (gI sh P) 0 0 4 [.ref a, .int i1, .int (i2 + 1)] [] sh S4) ∧ (¬ x5 = 0 → ∃ r7, S4.2.2 a 10 = some r7 ∧ sh[r7]? = some (0, 3) ∧ Sp l m_Pl_gapAt d 0 0 [.ref r7, .int i2] sh S4 (gI sh (fun x10 S9 => AW l m_Gr_freeGaps (d + 1) 0 0 (gI sh P) 0 0 4 [.ref a, .int (i1 ||| ((1 : Int32) <<< (x10 &&& 31))), .int (i2 + 1)] [] sh S9))))))))) : AW l m_Gr_freeGaps (d + 1) 0 0 (gI sh P) 0 0 4 [.ref a, .int i1, .int i2] [] sh S := by
  refine r_iload_n (pc := 4) d_Gr_freeGaps_4 (x := i2) rfl ?_
  refine r_aload_n (pc := 5) d_Gr_freeGaps_5 (x := a) rfl ?_
  obtain ⟨r1, er1, h⟩ := h
  refine r_getR (pc := 6) d_Gr_freeGaps_6 f_Gr_33 sa (Or.inl ⟨_, rfl⟩) (r := r1) er1 ?_
  obtain ⟨s2, h⟩ := h
  refine r_getI (pc := 9) d_Gr_freeGaps_9 f_Gr_57 s2 rfl ?_
  refine r_icmp_ge (pc := 12) d_Gr_freeGaps_12 (tgt := 42) (by decide) (fun c3 => ?_) (fun c3 => ?_)
  · replace h := h.1 c3
    refine r_iload_n (pc := 42) d_Gr_freeGaps_42 (x := i1) rfl ?_
    exact r_ireturn (pc := 43) d_Gr_freeGaps_43 rfl rfl (Nat.le_refl _) ⟨rfl, _, rfl, h⟩
  · replace h := h.2 c3
    refine r_aload_n (pc := 15) d_Gr_freeGaps_15 (x := a) rfl ?_
    refine r_iload_n (pc := 16) d_Gr_freeGaps_16 (x := i2) rfl ?_
    refine r_callV (pc := 17) (k := a) (As := [.int i2]) (rest := []) (mc' := 0) (ms' := 0) lk_Gr_159 in_Gr_isFree se_Gr_isFree sa rfl d_Gr_freeGaps_17 k_Gr_isFree rfl rfl (Nat.le_of_ble_eq_true rfl) (by decide) (by decide) (Sp.mono h ?_)
    rintro rS4 shS4 S4 ⟨qS4, x5, uS4, h⟩
    subst uS4
    rw [qS4]
    refine r_if_eq (pc := 20) d_Gr_freeGaps_20 (tgt := 36) (by decide) (fun c6 => ?_) (fun c6 => ?_)
    · replace h := h.1 c6
      refine r_iinc (pc := 36) d_Gr_freeGaps_36 (hi := by decide) (x := i2) rfl (v := i2 + 1) rfl (ls2 := [.ref a, .int i1, .int (i2 + 1)]) rfl ?_
      refine r_goto (pc := 39) d_Gr_freeGaps_39 (tgt := 4) (by decide) ?_
      exact h
    · replace h := h.2 c6
      refine r_iload_n (pc := 23) d_Gr_freeGaps_23 (x := i1) rfl ?_
      refine r_iconst (pc := 24) d_Gr_freeGaps_24 (v := 1) (by decide) ?_
      refine r_aload_n (pc := 25) d_Gr_freeGaps_25 (x := a) rfl ?_
      obtain ⟨r7, er7, h⟩ := h
      refine r_getR (pc := 26) d_Gr_freeGaps_26 f_Gr_33 sa (Or.inl ⟨_, rfl⟩) (r := r7) er7 ?_
      refine r_iload_n (pc := 29) d_Gr_freeGaps_29 (x := i2) rfl ?_
      obtain ⟨s8, h⟩ := h
      refine r_callV (pc := 30) (k := r7) (As := [.int i2]) (rest := [.int 1, .int i1]) (mc' := 0) (ms' := 0) lk_Gr_133 in_Pl_gapAt se_Pl_gapAt s8 rfl d_Gr_freeGaps_30 k_Pl_gapAt rfl rfl (Nat.le_of_ble_eq_true rfl) (by decide) (by decide) (Sp.mono h ?_)
      rintro rS9 shS9 S9 ⟨qS9, x10, uS9, h⟩
      subst uS9
      rw [qS9]
      refine r_ishl (pc := 33) d_Gr_freeGaps_33 ?_
      refine r_ior (pc := 34) d_Gr_freeGaps_34 ?_
      refine r_istore_n (pc := 35) (hk := rfl) (hd := d_Gr_freeGaps_35) (hi := by decide) (ls2 := [.ref a, .int (i1 ||| ((1 : Int32) <<< (x10 &&& 31))), .int i2]) (h2 := rfl) ?_
      refine r_iinc (pc := 36) d_Gr_freeGaps_36 (hi := by decide) (x := i2) rfl (v := i2 + 1) rfl (ls2 := [.ref a, .int (i1 ||| ((1 : Int32) <<< (x10 &&& 31))), .int (i2 + 1)]) rfl ?_
      refine r_goto (pc := 39) d_Gr_freeGaps_39 (tgt := 4) (by decide) ?_
      exact h
set_option maxRecDepth 4000 in
theorem e_Gr_isFree {l : Launch} {d : Nat} {sh : aw_SH} {S : aw_S} {P : Int32 → aw_S → Prop} {a : Nat} {p0 : Int32} (sa : sh[a]? = some (0, 2)) (h : ∃ r1, S.2.2 a 10 = some r1 ∧ sh[r1]? = some (0, 3) ∧ Sp l m_Pl_gapAt d 0 0 [.ref r1, .int p0] sh S (gI sh (fun x4 S3 => Sp l m_Gr_touching d 0 0 [.ref a, .int x4] sh S3 (gI sh (fun x6 S5 => AW l m_Gr_isFree (d + 1) 0 0 (gI sh P) 0 0 17 [.ref a, .null, .int x6, .int (p0 + (1 : Int32))] [] sh S5))))) : Sp l m_Gr_isFree (d + 1) 0 0 [.ref a, .int p0] sh S (gI sh P) := by
  refine Sp.of k_Gr_isFree (ls := [.ref a, .int p0, .null, .null]) rfl (Nat.le_of_ble_eq_true rfl) ?_
  refine r_aload_n (pc := 0) d_Gr_isFree_0 (x := a) rfl ?_
  refine r_aload_n (pc := 1) d_Gr_isFree_1 (x := a) rfl ?_
  obtain ⟨r1, er1, h⟩ := h
  refine r_getR (pc := 2) d_Gr_isFree_2 f_Gr_33 sa (Or.inl ⟨_, rfl⟩) (r := r1) er1 ?_
  refine r_iload_n (pc := 5) d_Gr_isFree_5 (x := p0) rfl ?_
  obtain ⟨s2, h⟩ := h
  refine r_callV (pc := 6) (k := r1) (As := [.int p0]) (rest := [.ref a]) (mc' := 0) (ms' := 0) lk_Gr_133 in_Pl_gapAt se_Pl_gapAt s2 rfl d_Gr_isFree_6 k_Pl_gapAt rfl rfl (Nat.le_of_ble_eq_true rfl) (by decide) (by decide) (Sp.mono h ?_)
  rintro rS3 shS3 S3 ⟨qS3, x4, uS3, h⟩
  subst uS3
  rw [qS3]
  refine r_callV (pc := 9) (k := a) (As := [.int x4]) (rest := []) (mc' := 0) (ms' := 0) lk_Gr_92 in_Gr_touching se_Gr_touching sa rfl d_Gr_isFree_9 k_Gr_touching rfl rfl (Nat.le_of_ble_eq_true rfl) (by decide) (by decide) (Sp.mono h ?_)
  rintro rS5 shS5 S5 ⟨qS5, x6, uS5, h⟩
  subst uS5
  rw [qS5]
  refine r_istore_n (pc := 12) (hk := rfl) (hd := d_Gr_isFree_12) (hi := by decide) (ls2 := [.ref a, .int p0, .int x6, .null]) (h2 := rfl) ?_
  refine r_iload_n (pc := 13) d_Gr_isFree_13 (x := p0) rfl ?_
  refine r_iconst (pc := 14) d_Gr_isFree_14 (v := 1) (by decide) ?_
  refine r_iadd (pc := 15) d_Gr_isFree_15 ?_
  refine r_istore_n (pc := 16) (hk := rfl) (hd := d_Gr_isFree_16) (hi := by decide) (ls2 := [.ref a, .int p0, .int x6, .int (p0 + (1 : Int32))]) (h2 := rfl) ?_
  exact r_weak (ls2 := [.ref a, .null, .int x6, .int (p0 + (1 : Int32))]) ⟨Or.inr rfl, Or.inl rfl, Or.inr rfl, Or.inr rfl, trivial⟩ h
set_option maxRecDepth 4000 in
theorem s_Gr_isFree_17 {l : Launch} {d : Nat} {sh : aw_SH} {S : aw_S} {P : Int32 → aw_S → Prop} {a : Nat} {i2 : Int32} {i3 : Int32} (sa : sh[a]? = some (0, 2)) (h : ∃ r1, S.2.2 a 10 = some r1 ∧ sh[r1]? = some (0, 3) ∧ (((S.1 r1 1) ≤ i3 → P 1 S) ∧ (¬ (S.1 r1 1) ≤ i3 → Sp l m_Pl_gapAt d 0 0 [.ref r1, .int i3] sh S (gI sh (fun x5 S4 => ((((i2 >>> (x5 &&& 31)) &&& (1 : Int32)) = 0 → AW l m_Gr_isFree (d + 1) 0 0 (gI sh P) 0 0 17 [.ref a, .null, .int i2, .int (i3 + 1)] [] sh S4) ∧ (¬ ((i2 >>> (x5 &&& 31)) &&& (1 : Int32)) = 0 → P 0 S4))))))) : AW l m_Gr_isFree (d + 1) 0 0 (gI sh P) 0 0 17 [.ref a, .null, .int i2, .int i3] [] sh S := by
  refine r_iload_n (pc := 17) d_Gr_isFree_17 (x := i3) rfl ?_
  refine r_aload_n (pc := 18) d_Gr_isFree_18 (x := a) rfl ?_
  obtain ⟨r1, er1, h⟩ := h
  refine r_getR (pc := 19) d_Gr_isFree_19 f_Gr_33 sa (Or.inl ⟨_, rfl⟩) (r := r1) er1 ?_
  obtain ⟨s2, h⟩ := h
  refine r_getI (pc := 22) d_Gr_isFree_22 f_Gr_57 s2 rfl ?_
  refine r_icmp_ge (pc := 25) d_Gr_isFree_25 (tgt := 51) (by decide) (fun c3 => ?_) (fun c3 => ?_)
  · replace h := h.1 c3
    refine r_iconst (pc := 51) d_Gr_isFree_51 (v := 1) (by decide) ?_
    exact r_zreturn (pc := 52) d_Gr_isFree_52 (v := 1) rfl (by decide) rfl (Nat.le_refl _) ⟨rfl, _, rfl, h⟩
  · replace h := h.2 c3
    refine r_iload_n (pc := 28) d_Gr_isFree_28 (x := i2) rfl ?_
    refine r_aload_n (pc := 29) d_Gr_isFree_29 (x := a) rfl ?_
    refine r_getR (pc := 30) d_Gr_isFree_30 f_Gr_33 sa (Or.inl ⟨_, rfl⟩) (r := r1) er1 ?_
    refine r_iload_n (pc := 33) d_Gr_isFree_33 (x := i3) rfl ?_
    refine r_callV (pc := 34) (k := r1) (As := [.int i3]) (rest := [.int i2]) (mc' := 0) (ms' := 0) lk_Gr_133 in_Pl_gapAt se_Pl_gapAt s2 rfl d_Gr_isFree_34 k_Pl_gapAt rfl rfl (Nat.le_of_ble_eq_true rfl) (by decide) (by decide) (Sp.mono h ?_)
    rintro rS4 shS4 S4 ⟨qS4, x5, uS4, h⟩
    subst uS4
    rw [qS4]
    refine r_ishr (pc := 37) d_Gr_isFree_37 ?_
    refine r_iconst (pc := 38) d_Gr_isFree_38 (v := 1) (by decide) ?_
    refine r_iand (pc := 39) d_Gr_isFree_39 ?_
    refine r_if_eq (pc := 40) d_Gr_isFree_40 (tgt := 45) (by decide) (fun c6 => ?_) (fun c6 => ?_)
    · replace h := h.1 c6
      refine r_iinc (pc := 45) d_Gr_isFree_45 (hi := by decide) (x := i3) rfl (v := i3 + 1) rfl (ls2 := [.ref a, .null, .int i2, .int (i3 + 1)]) rfl ?_
      refine r_goto (pc := 48) d_Gr_isFree_48 (tgt := 17) (by decide) ?_
      exact h
    · replace h := h.2 c6
      refine r_iconst (pc := 43) d_Gr_isFree_43 (v := 0) (by decide) ?_
      exact r_zreturn (pc := 44) d_Gr_isFree_44 (v := 0) rfl (by decide) rfl (Nat.le_refl _) ⟨rfl, _, rfl, h⟩
set_option maxRecDepth 4000 in
theorem e_Gr_coloursShown {l : Launch} {d : Nat} {sh : aw_SH} {S : aw_S} {P : Int32 → aw_S → Prop} {a : Nat} (sa : sh[a]? = some (0, 2)) (h : ∃ r1, S.2.2 a 10 = some r1 ∧ sh[r1]? = some (0, 3) ∧ AW l m_Gr_coloursShown (d + 1) 0 0 (gI sh P) 0 0 14 [.ref a, .int 0, .int 0, .int ((S.1 r1 1) - (1 : Int32)), .null] [] sh S) : Sp l m_Gr_coloursShown (d + 1) 0 0 [.ref a] sh S (gI sh P) := by
  refine Sp.of k_Gr_coloursShown (ls := [.ref a, .null, .null, .null, .null]) rfl (Nat.le_of_ble_eq_true rfl) ?_
  refine r_iconst (pc := 0) d_Gr_coloursShown_0 (v := 0) (by decide) ?_
  refine r_istore_n (pc := 1) (hk := rfl) (hd := d_Gr_coloursShown_1) (hi := by decide) (ls2 := [.ref a, .int 0, .null, .null, .null]) (h2 := rfl) ?_
  refine r_iconst (pc := 2) d_Gr_coloursShown_2 (v := 0) (by decide) ?_
  refine r_istore_n (pc := 3) (hk := rfl) (hd := d_Gr_coloursShown_3) (hi := by decide) (ls2 := [.ref a, .int 0, .int 0, .null, .null]) (h2 := rfl) ?_
  refine r_aload_n (pc := 4) d_Gr_coloursShown_4 (x := a) rfl ?_
  obtain ⟨r1, er1, h⟩ := h
  refine r_getR (pc := 5) d_Gr_coloursShown_5 f_Gr_33 sa (Or.inl ⟨_, rfl⟩) (r := r1) er1 ?_
  obtain ⟨s2, h⟩ := h
  refine r_getI (pc := 8) d_Gr_coloursShown_8 f_Gr_57 s2 rfl ?_
  refine r_iconst (pc := 11) d_Gr_coloursShown_11 (v := 1) (by decide) ?_
  refine r_isub (pc := 12) d_Gr_coloursShown_12 ?_
  refine r_istore_n (pc := 13) (hk := rfl) (hd := d_Gr_coloursShown_13) (hi := by decide) (ls2 := [.ref a, .int 0, .int 0, .int ((S.1 r1 1) - (1 : Int32)), .null]) (h2 := rfl) ?_
  exact h
set_option maxRecDepth 4000 in
theorem s_Gr_coloursShown_14 {l : Launch} {d : Nat} {sh : aw_SH} {S : aw_S} {P : Int32 → aw_S → Prop} {a : Nat} {i1 : Int32} {i2 : Int32} {i3 : Int32} (sa : sh[a]? = some (0, 2)) (h : ((i3 < 0 → Sp l m_In_bitCount d 0 0 [.int i2] sh S (gI sh (fun x3 S2 => P x3 S2))) ∧ (¬ i3 < 0 → ∃ r4, S.2.2 a 10 = some r4 ∧ sh[r4]? = some (0, 3) ∧ Sp l m_Pl_gapAt d 0 0 [.ref r4, .int i3] sh S (gI sh (fun x7 S6 => ((¬ (i1 &&& ((1 : Int32) <<< (x7 &&& 31))) = 0 → AW l m_Gr_coloursShown (d + 1) 0 0 (gI sh P) 0 0 14 [.ref a, .int i1, .int i2, .int (i3 + (-1)), .null] [] sh S6) ∧ ((i1 &&& ((1 : Int32) <<< (x7 &&& 31))) = 0 → ∃ r9, S6.2.2 a 6 = some r9 ∧ ∃ r10, S6.2.2 a 10 = some r10 ∧ sh[r10]? = some (0, 3) ∧ Sp l m_Pl_upperAt d 0 0 [.ref r10, .int i3] sh S6 (gI sh (fun x13 S12 => ∃ n15, sh[r9]? = some (3, n15) ∧ vp_in x13 n15 ∧ ∀ v17 : Int32, v17 = i2 ||| ((1 : Int32) <<< ((S12.1 r9 x13.toNatClampNeg) &&& 31)) → AW l m_Gr_coloursShown (d + 1) 0 0 (gI sh P) 0 0 14 [.ref a, .int (i1 ||| ((1 : Int32) <<< (x7 &&& 31))), .int v17, .int (i3 + (-1)), .null] [] sh S12))))))))) : AW l m_Gr_coloursShown (d + 1) 0 0 (gI sh P) 0 0 14 [.ref a, .int i1, .int i2, .int i3, .null] [] sh S := by
  refine r_iload_n (pc := 14) d_Gr_coloursShown_14 (x := i3) rfl ?_
  refine r_if_lt (pc := 15) d_Gr_coloursShown_15 (tgt := 66) (by decide) (fun c1 => ?_) (fun c1 => ?_)
  · replace h := h.1 c1
    refine r_iload_n (pc := 66) d_Gr_coloursShown_66 (x := i2) rfl ?_
    refine r_callS (pc := 67) (k := 0) (As := [.int i2]) (rest := []) (mc' := 0) (ms' := 0) lk_Gr_154 st_In_bitCount d_Gr_coloursShown_67 k_In_bitCount rfl rfl (Nat.le_of_ble_eq_true rfl) (by decide) (by decide) (Sp.mono h ?_)
    rintro rS2 shS2 S2 ⟨qS2, x3, uS2, h⟩
    subst uS2
    rw [qS2]
    exact r_ireturn (pc := 70) d_Gr_coloursShown_70 rfl rfl (Nat.le_refl _) ⟨rfl, _, rfl, h⟩
  · replace h := h.2 c1
    refine r_iconst (pc := 18) d_Gr_coloursShown_18 (v := 1) (by decide) ?_
    refine r_aload_n (pc := 19) d_Gr_coloursShown_19 (x := a) rfl ?_
    obtain ⟨r4, er4, h⟩ := h
    refine r_getR (pc := 20) d_Gr_coloursShown_20 f_Gr_33 sa (Or.inl ⟨_, rfl⟩) (r := r4) er4 ?_
    refine r_iload_n (pc := 23) d_Gr_coloursShown_23 (x := i3) rfl ?_
    obtain ⟨s5, h⟩ := h
    refine r_callV (pc := 24) (k := r4) (As := [.int i3]) (rest := [.int 1]) (mc' := 0) (ms' := 0) lk_Gr_133 in_Pl_gapAt se_Pl_gapAt s5 rfl d_Gr_coloursShown_24 k_Pl_gapAt rfl rfl (Nat.le_of_ble_eq_true rfl) (by decide) (by decide) (Sp.mono h ?_)
    rintro rS6 shS6 S6 ⟨qS6, x7, uS6, h⟩
    subst uS6
    rw [qS6]
    refine r_ishl (pc := 27) d_Gr_coloursShown_27 ?_
    refine r_istore (pc := 28) (hd := d_Gr_coloursShown_28) (hi := by decide) (ls2 := [.ref a, .int i1, .int i2, .int i3, .int ((1 : Int32) <<< (x7 &&& 31))]) (h2 := rfl) ?_
    refine r_iload_n (pc := 30) d_Gr_coloursShown_30 (x := i1) rfl ?_
    refine r_iload (pc := 31) d_Gr_coloursShown_31 (x := ((1 : Int32) <<< (x7 &&& 31))) rfl ?_
    refine r_iand (pc := 33) d_Gr_coloursShown_33 ?_
    refine r_if_ne (pc := 34) d_Gr_coloursShown_34 (tgt := 60) (by decide) (fun c8 => ?_) (fun c8 => ?_)
    · replace h := h.1 c8
      refine r_iinc (pc := 60) d_Gr_coloursShown_60 (hi := by decide) (x := i3) rfl (v := i3 + (-1)) rfl (ls2 := [.ref a, .int i1, .int i2, .int (i3 + (-1)), .int ((1 : Int32) <<< (x7 &&& 31))]) rfl ?_
      refine r_goto (pc := 63) d_Gr_coloursShown_63 (tgt := 14) (by decide) ?_
      exact r_weak (ls2 := [.ref a, .int i1, .int i2, .int (i3 + (-1)), .null]) ⟨Or.inr rfl, Or.inr rfl, Or.inr rfl, Or.inr rfl, Or.inl rfl, trivial⟩ h
    · replace h := h.2 c8
      refine r_iload_n (pc := 37) d_Gr_coloursShown_37 (x := i1) rfl ?_
      refine r_iload (pc := 38) d_Gr_coloursShown_38 (x := ((1 : Int32) <<< (x7 &&& 31))) rfl ?_
      refine r_ior (pc := 40) d_Gr_coloursShown_40 ?_
      refine r_istore_n (pc := 41) (hk := rfl) (hd := d_Gr_coloursShown_41) (hi := by decide) (ls2 := [.ref a, .int (i1 ||| ((1 : Int32) <<< (x7 &&& 31))), .int i2, .int i3, .int ((1 : Int32) <<< (x7 &&& 31))]) (h2 := rfl) ?_
      refine r_iload_n (pc := 42) d_Gr_coloursShown_42 (x := i2) rfl ?_
      refine r_iconst (pc := 43) d_Gr_coloursShown_43 (v := 1) (by decide) ?_
      refine r_aload_n (pc := 44) d_Gr_coloursShown_44 (x := a) rfl ?_
      obtain ⟨r9, er9, h⟩ := h
      refine r_getR (pc := 45) d_Gr_coloursShown_45 f_Gr_15 sa (Or.inr ⟨_, rfl⟩) (r := r9) er9 ?_
      refine r_aload_n (pc := 48) d_Gr_coloursShown_48 (x := a) rfl ?_
      obtain ⟨r10, er10, h⟩ := h
      refine r_getR (pc := 49) d_Gr_coloursShown_49 f_Gr_33 sa (Or.inl ⟨_, rfl⟩) (r := r10) er10 ?_
      refine r_iload_n (pc := 52) d_Gr_coloursShown_52 (x := i3) rfl ?_
      obtain ⟨s11, h⟩ := h
      refine r_callV (pc := 53) (k := r10) (As := [.int i3]) (rest := [.ref r9, .int 1, .int i2]) (mc' := 0) (ms' := 0) lk_Gr_127 in_Pl_upperAt se_Pl_upperAt s11 rfl d_Gr_coloursShown_53 k_Pl_upperAt rfl rfl (Nat.le_of_ble_eq_true rfl) (by decide) (by decide) (Sp.mono h ?_)
      rintro rS12 shS12 S12 ⟨qS12, x13, uS12, h⟩
      subst uS12
      rw [qS12]
      obtain ⟨n15, s14, h⟩ := h
      obtain ⟨g16, h⟩ := h
      refine r_iald (pc := 56) d_Gr_coloursShown_56 s14 g16 ?_
      refine r_ishl (pc := 57) d_Gr_coloursShown_57 ?_
      refine r_ior (pc := 58) d_Gr_coloursShown_58 ?_
      refine r_ni (fun v17 ev17 => ?_)
      replace h := h v17 ev17
      refine r_istore_n (pc := 59) (hk := rfl) (hd := d_Gr_coloursShown_59) (hi := by decide) (ls2 := [.ref a, .int (i1 ||| ((1 : Int32) <<< (x7 &&& 31))), .int v17, .int i3, .int ((1 : Int32) <<< (x7 &&& 31))]) (h2 := rfl) ?_
      refine r_iinc (pc := 60) d_Gr_coloursShown_60 (hi := by decide) (x := i3) rfl (v := i3 + (-1)) rfl (ls2 := [.ref a, .int (i1 ||| ((1 : Int32) <<< (x7 &&& 31))), .int v17, .int (i3 + (-1)), .int ((1 : Int32) <<< (x7 &&& 31))]) rfl ?_
      refine r_goto (pc := 63) d_Gr_coloursShown_63 (tgt := 14) (by decide) ?_
      exact r_weak (ls2 := [.ref a, .int (i1 ||| ((1 : Int32) <<< (x7 &&& 31))), .int v17, .int (i3 + (-1)), .null]) ⟨Or.inr rfl, Or.inr rfl, Or.inr rfl, Or.inr rfl, Or.inl rfl, trivial⟩ h
set_option maxRecDepth 4000 in
theorem e_Gr_left {l : Launch} {d : Nat} {sh : aw_SH} {S : aw_S} {P : Int32 → aw_S → Prop} {a : Nat} {p0 : Int32} (sa : sh[a]? = some (0, 2)) (h : ∃ r1, S.2.2 a 8 = some r1 ∧ ∃ n3, sh[r1]? = some (3, n3) ∧ vp_in p0 n3 ∧ Sp l m_Ma_max d 0 0 [.int 0, .int ((S.1 a 2) - (S.1 r1 p0.toNatClampNeg))] sh S (gI sh (fun x6 S5 => P x6 S5))) : Sp l m_Gr_left (d + 1) 0 0 [.ref a, .int p0] sh S (gI sh P) := by
  refine Sp.of k_Gr_left (ls := [.ref a, .int p0]) rfl (Nat.le_of_ble_eq_true rfl) ?_
  refine r_iconst (pc := 0) d_Gr_left_0 (v := 0) (by decide) ?_
  refine r_aload_n (pc := 1) d_Gr_left_1 (x := a) rfl ?_
  refine r_getI (pc := 2) d_Gr_left_2 f_Gr_51 sa rfl ?_
  refine r_aload_n (pc := 5) d_Gr_left_5 (x := a) rfl ?_
  obtain ⟨r1, er1, h⟩ := h
  refine r_getR (pc := 6) d_Gr_left_6 f_Gr_22 sa (Or.inr ⟨_, rfl⟩) (r := r1) er1 ?_
  refine r_iload_n (pc := 9) d_Gr_left_9 (x := p0) rfl ?_
  obtain ⟨n3, s2, h⟩ := h
  obtain ⟨g4, h⟩ := h
  refine r_iald (pc := 10) d_Gr_left_10 s2 g4 ?_
  refine r_isub (pc := 11) d_Gr_left_11 ?_
  refine r_callS (pc := 12) (k := 0) (As := [.int 0, .int ((S.1 a 2) - (S.1 r1 p0.toNatClampNeg))]) (rest := []) (mc' := 0) (ms' := 0) lk_Gr_86 st_Ma_max d_Gr_left_12 k_Ma_max rfl rfl (Nat.le_of_ble_eq_true rfl) (by decide) (by decide) (Sp.mono h ?_)
  rintro rS5 shS5 S5 ⟨qS5, x6, uS5, h⟩
  subst uS5
  rw [qS5]
  exact r_ireturn (pc := 15) d_Gr_left_15 rfl rfl (Nat.le_refl _) ⟨rfl, _, rfl, h⟩
set_option maxRecDepth 4000 in
theorem e_Gr_mustGo {l : Launch} {d : Nat} {sh : aw_SH} {S : aw_S} {P : Int32 → aw_S → Prop} {a : Nat} {p0 : Int32} {p1 : Int32} (sa : sh[a]? = some (0, 2)) (h : AW l m_Gr_mustGo (d + 1) 0 0 (gI sh P) 0 0 8 [.ref a, .int p0, .int p1, .int 0, .int 0, .int 0, .null, .null] [] sh S) : Sp l m_Gr_mustGo (d + 1) 0 0 [.ref a, .int p0, .int p1] sh S (gI sh P) := by
  refine Sp.of k_Gr_mustGo (ls := [.ref a, .int p0, .int p1, .null, .null, .null, .null, .null]) rfl (Nat.le_of_ble_eq_true rfl) ?_
  refine r_iconst (pc := 0) d_Gr_mustGo_0 (v := 0) (by decide) ?_
  refine r_istore_n (pc := 1) (hk := rfl) (hd := d_Gr_mustGo_1) (hi := by decide) (ls2 := [.ref a, .int p0, .int p1, .int 0, .null, .null, .null, .null]) (h2 := rfl) ?_
  refine r_iconst (pc := 2) d_Gr_mustGo_2 (v := 0) (by decide) ?_
  refine r_istore (pc := 3) (hd := d_Gr_mustGo_3) (hi := by decide) (ls2 := [.ref a, .int p0, .int p1, .int 0, .int 0, .null, .null, .null]) (h2 := rfl) ?_
  refine r_iconst (pc := 5) d_Gr_mustGo_5 (v := 0) (by decide) ?_
  refine r_istore (pc := 6) (hd := d_Gr_mustGo_6) (hi := by decide) (ls2 := [.ref a, .int p0, .int p1, .int 0, .int 0, .int 0, .null, .null]) (h2 := rfl) ?_
  exact h
set_option maxRecDepth 4000 in
theorem s_Gr_mustGo_8 {l : Launch} {d : Nat} {sh : aw_SH} {S : aw_S} {P : Int32 → aw_S → Prop} {a : Nat} {i1 : Int32} {i2 : Int32} {i3 : Int32} {i4 : Int32} {i5 : Int32} (sa : sh[a]? = some (0, 2)) (h : ∃ r1, S.2.2 a 10 = some r1 ∧ sh[r1]? = some (0, 3) ∧ (((S.1 r1 1) ≤ i5 → P i3 S) ∧ (¬ (S.1 r1 1) ≤ i5 → Sp l m_Pl_gapAt d 0 0 [.ref r1, .int i5] sh S (gI sh (fun x5 S4 => ((i5 = i1 → AW l m_Gr_mustGo (d + 1) 0 0 (gI sh P) 0 0 8 [.ref a, .int i1, .int i2, .int (i3 + 1), .int (i4 ||| ((1 : Int32) <<< (x5 &&& 31))), .int (i5 + 1), .null, .null] [] sh S4) ∧ (¬ i5 = i1 → ∃ r8, S4.2.2 a 10 = some r8 ∧ sh[r8]? = some (0, 3) ∧ Sp l m_Pl_has d 0 0 [.ref r8, .int i5, .int i2] sh S4 (gI sh (fun x11 S10 => ((x11 = 0 → Sp l m_Gr_touching d 0 0 [.ref a, .int x5] sh S10 (gI sh (fun x15 S14 => (((x15 &&& i4) = 0 → AW l m_Gr_mustGo (d + 1) 0 0 (gI sh P) 0 0 8 [.ref a, .int i1, .int i2, .int i3, .int i4, .int (i5 + 1), .null, .null] [] sh S14) ∧ (¬ (x15 &&& i4) = 0 → AW l m_Gr_mustGo (d + 1) 0 0 (gI sh P) 0 0 8 [.ref a, .int i1, .int i2, .int (i3 + 1), .int (i4 ||| ((1 : Int32) <<< (x5 &&& 31))), .int (i5 + 1), .null, .null] [] sh S14))))) ∧ (¬ x11 = 0 → AW l m_Gr_mustGo (d + 1) 0 0 (gI sh P) 0 0 8 [.ref a, .int i1, .int i2, .int (i3 + 1), .int (i4 ||| ((1 : Int32) <<< (x5 &&& 31))), .int (i5 + 1), .null, .null] [] sh S10))))))))))) : AW l m_Gr_mustGo (d + 1) 0 0 (gI sh P) 0 0 8 [.ref a, .int i1, .int i2, .int i3, .int i4, .int i5, .null, .null] [] sh S := by
  refine r_iload (pc := 8) d_Gr_mustGo_8 (x := i5) rfl ?_
  refine r_aload_n (pc := 10) d_Gr_mustGo_10 (x := a) rfl ?_
  obtain ⟨r1, er1, h⟩ := h
  refine r_getR (pc := 11) d_Gr_mustGo_11 f_Gr_33 sa (Or.inl ⟨_, rfl⟩) (r := r1) er1 ?_
  obtain ⟨s2, h⟩ := h
  refine r_getI (pc := 14) d_Gr_mustGo_14 f_Gr_57 s2 rfl ?_
  refine r_icmp_ge (pc := 17) d_Gr_mustGo_17 (tgt := 92) (by decide) (fun c3 => ?_) (fun c3 => ?_)
  · replace h := h.1 c3
    refine r_iload_n (pc := 92) d_Gr_mustGo_92 (x := i3) rfl ?_
    exact r_ireturn (pc := 93) d_Gr_mustGo_93 rfl rfl (Nat.le_refl _) ⟨rfl, _, rfl, h⟩
  · replace h := h.2 c3
    refine r_aload_n (pc := 20) d_Gr_mustGo_20 (x := a) rfl ?_
    refine r_getR (pc := 21) d_Gr_mustGo_21 f_Gr_33 sa (Or.inl ⟨_, rfl⟩) (r := r1) er1 ?_
    refine r_iload (pc := 24) d_Gr_mustGo_24 (x := i5) rfl ?_
    refine r_callV (pc := 26) (k := r1) (As := [.int i5]) (rest := []) (mc' := 0) (ms' := 0) lk_Gr_133 in_Pl_gapAt se_Pl_gapAt s2 rfl d_Gr_mustGo_26 k_Pl_gapAt rfl rfl (Nat.le_of_ble_eq_true rfl) (by decide) (by decide) (Sp.mono h ?_)
    rintro rS4 shS4 S4 ⟨qS4, x5, uS4, h⟩
    subst uS4
    rw [qS4]
    refine r_istore (pc := 29) (hd := d_Gr_mustGo_29) (hi := by decide) (ls2 := [.ref a, .int i1, .int i2, .int i3, .int i4, .int i5, .int x5, .null]) (h2 := rfl) ?_
    refine r_iload (pc := 31) d_Gr_mustGo_31 (x := i5) rfl ?_
    refine r_iload_n (pc := 33) d_Gr_mustGo_33 (x := i1) rfl ?_
    refine r_icmp_eq (pc := 34) d_Gr_mustGo_34 (tgt := 50) (by decide) (fun c6 => ?_) (fun c6 => ?_)
    · replace h := h.1 c6
      refine r_iconst (pc := 50) d_Gr_mustGo_50 (v := 1) (by decide) ?_
      refine r_goto (pc := 51) d_Gr_mustGo_51 (tgt := 55) (by decide) ?_
      refine r_istore (pc := 55) (hd := d_Gr_mustGo_55) (hi := by decide) (ls2 := [.ref a, .int i1, .int i2, .int i3, .int i4, .int i5, .int x5, .int 1]) (h2 := rfl) ?_
      refine r_iload (pc := 57) d_Gr_mustGo_57 (x := 1) rfl ?_
      refine r_if_ne (pc := 59) d_Gr_mustGo_59 (tgt := 74) (by decide) (fun _ => ?_) (fun q => absurd q (by decide))
      refine r_iinc (pc := 74) d_Gr_mustGo_74 (hi := by decide) (x := i3) rfl (v := i3 + 1) rfl (ls2 := [.ref a, .int i1, .int i2, .int (i3 + 1), .int i4, .int i5, .int x5, .int 1]) rfl ?_
      refine r_iload (pc := 77) d_Gr_mustGo_77 (x := i4) rfl ?_
      refine r_iconst (pc := 79) d_Gr_mustGo_79 (v := 1) (by decide) ?_
      refine r_iload (pc := 80) d_Gr_mustGo_80 (x := x5) rfl ?_
      refine r_ishl (pc := 82) d_Gr_mustGo_82 ?_
      refine r_ior (pc := 83) d_Gr_mustGo_83 ?_
      refine r_istore (pc := 84) (hd := d_Gr_mustGo_84) (hi := by decide) (ls2 := [.ref a, .int i1, .int i2, .int (i3 + 1), .int (i4 ||| ((1 : Int32) <<< (x5 &&& 31))), .int i5, .int x5, .int 1]) (h2 := rfl) ?_
      refine r_iinc (pc := 86) d_Gr_mustGo_86 (hi := by decide) (x := i5) rfl (v := i5 + 1) rfl (ls2 := [.ref a, .int i1, .int i2, .int (i3 + 1), .int (i4 ||| ((1 : Int32) <<< (x5 &&& 31))), .int (i5 + 1), .int x5, .int 1]) rfl ?_
      refine r_goto (pc := 89) d_Gr_mustGo_89 (tgt := 8) (by decide) ?_
      exact r_weak (ls2 := [.ref a, .int i1, .int i2, .int (i3 + 1), .int (i4 ||| ((1 : Int32) <<< (x5 &&& 31))), .int (i5 + 1), .null, .null]) ⟨Or.inr rfl, Or.inr rfl, Or.inr rfl, Or.inr rfl, Or.inr rfl, Or.inr rfl, Or.inl rfl, Or.inl rfl, trivial⟩ h
    · replace h := h.2 c6
      refine r_aload_n (pc := 37) d_Gr_mustGo_37 (x := a) rfl ?_
      obtain ⟨r8, er8, h⟩ := h
      refine r_getR (pc := 38) d_Gr_mustGo_38 f_Gr_33 sa (Or.inl ⟨_, rfl⟩) (r := r8) er8 ?_
      refine r_iload (pc := 41) d_Gr_mustGo_41 (x := i5) rfl ?_
      refine r_iload_n (pc := 43) d_Gr_mustGo_43 (x := i2) rfl ?_
      obtain ⟨s9, h⟩ := h
      refine r_callV (pc := 44) (k := r8) (As := [.int i5, .int i2]) (rest := []) (mc' := 0) (ms' := 0) lk_Gr_165 in_Pl_has se_Pl_has s9 rfl d_Gr_mustGo_44 k_Pl_has rfl rfl (Nat.le_of_ble_eq_true rfl) (by decide) (by decide) (Sp.mono h ?_)
      rintro rS10 shS10 S10 ⟨qS10, x11, uS10, h⟩
      subst uS10
      rw [qS10]
      refine r_if_eq (pc := 47) d_Gr_mustGo_47 (tgt := 54) (by decide) (fun c12 => ?_) (fun c12 => ?_)
      · replace h := h.1 c12
        refine r_iconst (pc := 54) d_Gr_mustGo_54 (v := 0) (by decide) ?_
        refine r_istore (pc := 55) (hd := d_Gr_mustGo_55) (hi := by decide) (ls2 := [.ref a, .int i1, .int i2, .int i3, .int i4, .int i5, .int x5, .int 0]) (h2 := rfl) ?_
        refine r_iload (pc := 57) d_Gr_mustGo_57 (x := 0) rfl ?_
        refine r_if_ne (pc := 59) d_Gr_mustGo_59 (tgt := 74) (by decide) (fun q => absurd q (by decide)) (fun _ => ?_)
        refine r_aload_n (pc := 62) d_Gr_mustGo_62 (x := a) rfl ?_
        refine r_iload (pc := 63) d_Gr_mustGo_63 (x := x5) rfl ?_
        refine r_callV (pc := 65) (k := a) (As := [.int x5]) (rest := []) (mc' := 0) (ms' := 0) lk_Gr_92 in_Gr_touching se_Gr_touching sa rfl d_Gr_mustGo_65 k_Gr_touching rfl rfl (Nat.le_of_ble_eq_true rfl) (by decide) (by decide) (Sp.mono h ?_)
        rintro rS14 shS14 S14 ⟨qS14, x15, uS14, h⟩
        subst uS14
        rw [qS14]
        refine r_iload (pc := 68) d_Gr_mustGo_68 (x := i4) rfl ?_
        refine r_iand (pc := 70) d_Gr_mustGo_70 ?_
        refine r_if_eq (pc := 71) d_Gr_mustGo_71 (tgt := 86) (by decide) (fun c16 => ?_) (fun c16 => ?_)
        · replace h := h.1 c16
          refine r_iinc (pc := 86) d_Gr_mustGo_86 (hi := by decide) (x := i5) rfl (v := i5 + 1) rfl (ls2 := [.ref a, .int i1, .int i2, .int i3, .int i4, .int (i5 + 1), .int x5, .int 0]) rfl ?_
          refine r_goto (pc := 89) d_Gr_mustGo_89 (tgt := 8) (by decide) ?_
          exact r_weak (ls2 := [.ref a, .int i1, .int i2, .int i3, .int i4, .int (i5 + 1), .null, .null]) ⟨Or.inr rfl, Or.inr rfl, Or.inr rfl, Or.inr rfl, Or.inr rfl, Or.inr rfl, Or.inl rfl, Or.inl rfl, trivial⟩ h
        · replace h := h.2 c16
          refine r_iinc (pc := 74) d_Gr_mustGo_74 (hi := by decide) (x := i3) rfl (v := i3 + 1) rfl (ls2 := [.ref a, .int i1, .int i2, .int (i3 + 1), .int i4, .int i5, .int x5, .int 0]) rfl ?_
          refine r_iload (pc := 77) d_Gr_mustGo_77 (x := i4) rfl ?_
          refine r_iconst (pc := 79) d_Gr_mustGo_79 (v := 1) (by decide) ?_
          refine r_iload (pc := 80) d_Gr_mustGo_80 (x := x5) rfl ?_
          refine r_ishl (pc := 82) d_Gr_mustGo_82 ?_
          refine r_ior (pc := 83) d_Gr_mustGo_83 ?_
          refine r_istore (pc := 84) (hd := d_Gr_mustGo_84) (hi := by decide) (ls2 := [.ref a, .int i1, .int i2, .int (i3 + 1), .int (i4 ||| ((1 : Int32) <<< (x5 &&& 31))), .int i5, .int x5, .int 0]) (h2 := rfl) ?_
          refine r_iinc (pc := 86) d_Gr_mustGo_86 (hi := by decide) (x := i5) rfl (v := i5 + 1) rfl (ls2 := [.ref a, .int i1, .int i2, .int (i3 + 1), .int (i4 ||| ((1 : Int32) <<< (x5 &&& 31))), .int (i5 + 1), .int x5, .int 0]) rfl ?_
          refine r_goto (pc := 89) d_Gr_mustGo_89 (tgt := 8) (by decide) ?_
          exact r_weak (ls2 := [.ref a, .int i1, .int i2, .int (i3 + 1), .int (i4 ||| ((1 : Int32) <<< (x5 &&& 31))), .int (i5 + 1), .null, .null]) ⟨Or.inr rfl, Or.inr rfl, Or.inr rfl, Or.inr rfl, Or.inr rfl, Or.inr rfl, Or.inl rfl, Or.inl rfl, trivial⟩ h
      · replace h := h.2 c12
        refine r_iconst (pc := 50) d_Gr_mustGo_50 (v := 1) (by decide) ?_
        refine r_goto (pc := 51) d_Gr_mustGo_51 (tgt := 55) (by decide) ?_
        refine r_istore (pc := 55) (hd := d_Gr_mustGo_55) (hi := by decide) (ls2 := [.ref a, .int i1, .int i2, .int i3, .int i4, .int i5, .int x5, .int 1]) (h2 := rfl) ?_
        refine r_iload (pc := 57) d_Gr_mustGo_57 (x := 1) rfl ?_
        refine r_if_ne (pc := 59) d_Gr_mustGo_59 (tgt := 74) (by decide) (fun _ => ?_) (fun q => absurd q (by decide))
        refine r_iinc (pc := 74) d_Gr_mustGo_74 (hi := by decide) (x := i3) rfl (v := i3 + 1) rfl (ls2 := [.ref a, .int i1, .int i2, .int (i3 + 1), .int i4, .int i5, .int x5, .int 1]) rfl ?_
        refine r_iload (pc := 77) d_Gr_mustGo_77 (x := i4) rfl ?_
        refine r_iconst (pc := 79) d_Gr_mustGo_79 (v := 1) (by decide) ?_
        refine r_iload (pc := 80) d_Gr_mustGo_80 (x := x5) rfl ?_
        refine r_ishl (pc := 82) d_Gr_mustGo_82 ?_
        refine r_ior (pc := 83) d_Gr_mustGo_83 ?_
        refine r_istore (pc := 84) (hd := d_Gr_mustGo_84) (hi := by decide) (ls2 := [.ref a, .int i1, .int i2, .int (i3 + 1), .int (i4 ||| ((1 : Int32) <<< (x5 &&& 31))), .int i5, .int x5, .int 1]) (h2 := rfl) ?_
        refine r_iinc (pc := 86) d_Gr_mustGo_86 (hi := by decide) (x := i5) rfl (v := i5 + 1) rfl (ls2 := [.ref a, .int i1, .int i2, .int (i3 + 1), .int (i4 ||| ((1 : Int32) <<< (x5 &&& 31))), .int (i5 + 1), .int x5, .int 1]) rfl ?_
        refine r_goto (pc := 89) d_Gr_mustGo_89 (tgt := 8) (by decide) ?_
        exact r_weak (ls2 := [.ref a, .int i1, .int i2, .int (i3 + 1), .int (i4 ||| ((1 : Int32) <<< (x5 &&& 31))), .int (i5 + 1), .null, .null]) ⟨Or.inr rfl, Or.inr rfl, Or.inr rfl, Or.inr rfl, Or.inr rfl, Or.inr rfl, Or.inl rfl, Or.inl rfl, trivial⟩ h
set_option maxRecDepth 4000 in
theorem e_Gr_colourIn {l : Launch} {d : Nat} {sh : aw_SH} {S : aw_S} {P : Int32 → aw_S → Prop} {a : Nat} {p0 : Int32} {p1 : Int32} (sa : sh[a]? = some (0, 2)) (h : ∃ r1, S.2.2 a 10 = some r1 ∧ sh[r1]? = some (0, 3) ∧ Sp l m_Pl_latestIn d 0 0 [.ref r1, .int p0, .int p1] sh S (gI sh (fun x4 S3 => ((¬ x4 = (-1) → ∃ r6, S3.2.2 a 6 = some r6 ∧ ∃ r7, S3.2.2 a 10 = some r7 ∧ sh[r7]? = some (0, 3) ∧ Sp l m_Pl_upperAt d 0 0 [.ref r7, .int x4] sh S3 (gI sh (fun x10 S9 => ∃ n12, sh[r6]? = some (3, n12) ∧ vp_in x10 n12 ∧ P (S9.1 r6 x10.toNatClampNeg) S9))) ∧ (x4 = (-1) → P 6 S3))))) : Sp l m_Gr_colourIn (d + 1) 0 0 [.ref a, .int p0, .int p1] sh S (gI sh P) := by
  refine Sp.of k_Gr_colourIn (ls := [.ref a, .int p0, .int p1, .null]) rfl (Nat.le_of_ble_eq_true rfl) ?_
  refine r_aload_n (pc := 0) d_Gr_colourIn_0 (x := a) rfl ?_
  obtain ⟨r1, er1, h⟩ := h
  refine r_getR (pc := 1) d_Gr_colourIn_1 f_Gr_33 sa (Or.inl ⟨_, rfl⟩) (r := r1) er1 ?_
  refine r_iload_n (pc := 4) d_Gr_colourIn_4 (x := p0) rfl ?_
  refine r_iload_n (pc := 5) d_Gr_colourIn_5 (x := p1) rfl ?_
  obtain ⟨s2, h⟩ := h
  refine r_callV (pc := 6) (k := r1) (As := [.int p0, .int p1]) (rest := []) (mc' := 0) (ms' := 0) lk_Gr_145 in_Pl_latestIn se_Pl_latestIn s2 rfl d_Gr_colourIn_6 k_Pl_latestIn rfl rfl (Nat.le_of_ble_eq_true rfl) (by decide) (by decide) (Sp.mono h ?_)
  rintro rS3 shS3 S3 ⟨qS3, x4, uS3, h⟩
  subst uS3
  rw [qS3]
  refine r_istore_n (pc := 9) (hk := rfl) (hd := d_Gr_colourIn_9) (hi := by decide) (ls2 := [.ref a, .int p0, .int p1, .int x4]) (h2 := rfl) ?_
  refine r_iload_n (pc := 10) d_Gr_colourIn_10 (x := x4) rfl ?_
  refine r_iconst (pc := 11) d_Gr_colourIn_11 (v := (-1)) (by decide) ?_
  refine r_icmp_ne (pc := 12) d_Gr_colourIn_12 (tgt := 20) (by decide) (fun c5 => ?_) (fun c5 => ?_)
  · replace h := h.1 c5
    refine r_aload_n (pc := 20) d_Gr_colourIn_20 (x := a) rfl ?_
    obtain ⟨r6, er6, h⟩ := h
    refine r_getR (pc := 21) d_Gr_colourIn_21 f_Gr_15 sa (Or.inr ⟨_, rfl⟩) (r := r6) er6 ?_
    refine r_aload_n (pc := 24) d_Gr_colourIn_24 (x := a) rfl ?_
    obtain ⟨r7, er7, h⟩ := h
    refine r_getR (pc := 25) d_Gr_colourIn_25 f_Gr_33 sa (Or.inl ⟨_, rfl⟩) (r := r7) er7 ?_
    refine r_iload_n (pc := 28) d_Gr_colourIn_28 (x := x4) rfl ?_
    obtain ⟨s8, h⟩ := h
    refine r_callV (pc := 29) (k := r7) (As := [.int x4]) (rest := [.ref r6]) (mc' := 0) (ms' := 0) lk_Gr_127 in_Pl_upperAt se_Pl_upperAt s8 rfl d_Gr_colourIn_29 k_Pl_upperAt rfl rfl (Nat.le_of_ble_eq_true rfl) (by decide) (by decide) (Sp.mono h ?_)
    rintro rS9 shS9 S9 ⟨qS9, x10, uS9, h⟩
    subst uS9
    rw [qS9]
    obtain ⟨n12, s11, h⟩ := h
    obtain ⟨g13, h⟩ := h
    refine r_iald (pc := 32) d_Gr_colourIn_32 s11 g13 ?_
    exact r_ireturn (pc := 33) d_Gr_colourIn_33 rfl rfl (Nat.le_refl _) ⟨rfl, _, rfl, h⟩
  · replace h := h.2 c5
    refine r_bipush (pc := 15) d_Gr_colourIn_15 (v := 6) (by decide) ?_
    refine r_goto (pc := 17) d_Gr_colourIn_17 (tgt := 33) (by decide) ?_
    exact r_ireturn (pc := 33) d_Gr_colourIn_33 rfl rfl (Nat.le_refl _) ⟨rfl, _, rfl, h⟩
set_option maxRecDepth 4000 in
theorem e_Gr_doBack {l : Launch} {d : Nat} {sh : aw_SH} {S : aw_S} {P : Int32 → aw_S → Prop} {a : Nat} (sa : sh[a]? = some (0, 2)) (h : ∃ r1, S.2.2 a 10 = some r1 ∧ sh[r1]? = some (0, 3) ∧ ((¬ (S.1 r1 1) = 0 → Sp l m_Gr_removePass d 0 0 [.ref a, .int ((S.1 r1 1) - (1 : Int32))] sh S (gV sh (fun S4 => P 1 (aw_uI S4 a 4 ((S4.1 a 4) + (1 : Int32)))))) ∧ ((S.1 r1 1) = 0 → P 0 S))) : Sp l m_Gr_doBack (d + 1) 0 0 [.ref a] sh S (gI sh P) := by
  refine Sp.of k_Gr_doBack (ls := [.ref a]) rfl (Nat.le_of_ble_eq_true rfl) ?_
  refine r_aload_n (pc := 0) d_Gr_doBack_0 (x := a) rfl ?_
  obtain ⟨r1, er1, h⟩ := h
  refine r_getR (pc := 1) d_Gr_doBack_1 f_Gr_33 sa (Or.inl ⟨_, rfl⟩) (r := r1) er1 ?_
  obtain ⟨s2, h⟩ := h
  refine r_getI (pc := 4) d_Gr_doBack_4 f_Gr_57 s2 rfl ?_
  refine r_if_ne (pc := 7) d_Gr_doBack_7 (tgt := 12) (by decide) (fun c3 => ?_) (fun c3 => ?_)
  · replace h := h.1 c3
    refine r_aload_n (pc := 12) d_Gr_doBack_12 (x := a) rfl ?_
    refine r_aload_n (pc := 13) d_Gr_doBack_13 (x := a) rfl ?_
    refine r_getR (pc := 14) d_Gr_doBack_14 f_Gr_33 sa (Or.inl ⟨_, rfl⟩) (r := r1) er1 ?_
    refine r_getI (pc := 17) d_Gr_doBack_17 f_Gr_57 s2 rfl ?_
    refine r_iconst (pc := 20) d_Gr_doBack_20 (v := 1) (by decide) ?_
    refine r_isub (pc := 21) d_Gr_doBack_21 ?_
    refine r_callV (pc := 22) (k := a) (As := [.int ((S.1 r1 1) - (1 : Int32))]) (rest := []) (mc' := 0) (ms' := 0) lk_Gr_102 in_Gr_removePass se_Gr_removePass sa rfl d_Gr_doBack_22 k_Gr_removePass rfl rfl (Nat.le_of_ble_eq_true rfl) (by decide) (by decide) (Sp.mono h ?_)
    rintro rS4 shS4 S4 ⟨qS4, uS4, h⟩
    subst uS4
    rw [qS4]
    refine r_aload_n (pc := 25) d_Gr_doBack_25 (x := a) rfl ?_
    refine r_dup (pc := 26) d_Gr_doBack_26 rfl ?_
    refine r_getI (pc := 27) d_Gr_doBack_27 f_Gr_69 sa rfl ?_
    refine r_iconst (pc := 30) d_Gr_doBack_30 (v := 1) (by decide) ?_
    refine r_iadd (pc := 31) d_Gr_doBack_31 ?_
    refine r_putI (pc := 32) d_Gr_doBack_32 f_Gr_69 sa rfl ?_
    refine r_iconst (pc := 35) d_Gr_doBack_35 (v := 1) (by decide) ?_
    exact r_zreturn (pc := 36) d_Gr_doBack_36 (v := 1) rfl (by decide) rfl (Nat.le_refl _) ⟨rfl, _, rfl, h⟩
  · replace h := h.2 c3
    refine r_iconst (pc := 10) d_Gr_doBack_10 (v := 0) (by decide) ?_
    exact r_zreturn (pc := 11) d_Gr_doBack_11 (v := 0) rfl (by decide) rfl (Nat.le_refl _) ⟨rfl, _, rfl, h⟩
set_option maxRecDepth 4000 in
theorem e_Gr_weaveTimes {l : Launch} {d : Nat} {sh : aw_SH} {S : aw_S} {P : Int32 → aw_S → Prop} {a : Nat} {p0 : Int32} (sa : sh[a]? = some (0, 2)) (h : Sp l m_Gr_gaps d 0 0 [.ref a] sh S (gI sh (fun x2 S1 => AW l m_Gr_weaveTimes (d + 1) 0 0 (gI sh P) 0 0 13 [.ref a, .int p0, .int 0, .int x2, .int 1, .int 0, .null, .null, .null] [] sh S1))) : Sp l m_Gr_weaveTimes (d + 1) 0 0 [.ref a, .int p0] sh S (gI sh P) := by
  refine Sp.of k_Gr_weaveTimes (ls := [.ref a, .int p0, .null, .null, .null, .null, .null, .null, .null]) rfl (Nat.le_of_ble_eq_true rfl) ?_
  refine r_iconst (pc := 0) d_Gr_weaveTimes_0 (v := 0) (by decide) ?_
  refine r_istore_n (pc := 1) (hk := rfl) (hd := d_Gr_weaveTimes_1) (hi := by decide) (ls2 := [.ref a, .int p0, .int 0, .null, .null, .null, .null, .null, .null]) (h2 := rfl) ?_
  refine r_aload_n (pc := 2) d_Gr_weaveTimes_2 (x := a) rfl ?_
  refine r_callV (pc := 3) (k := a) (As := []) (rest := []) (mc' := 0) (ms' := 0) lk_Gr_117 in_Gr_gaps se_Gr_gaps sa rfl d_Gr_weaveTimes_3 k_Gr_gaps rfl rfl (Nat.le_of_ble_eq_true rfl) (by decide) (by decide) (Sp.mono h ?_)
  rintro rS1 shS1 S1 ⟨qS1, x2, uS1, h⟩
  subst uS1
  rw [qS1]
  refine r_istore_n (pc := 6) (hk := rfl) (hd := d_Gr_weaveTimes_6) (hi := by decide) (ls2 := [.ref a, .int p0, .int 0, .int x2, .null, .null, .null, .null, .null]) (h2 := rfl) ?_
  refine r_iconst (pc := 7) d_Gr_weaveTimes_7 (v := 1) (by decide) ?_
  refine r_istore (pc := 8) (hd := d_Gr_weaveTimes_8) (hi := by decide) (ls2 := [.ref a, .int p0, .int 0, .int x2, .int 1, .null, .null, .null, .null]) (h2 := rfl) ?_
  refine r_iconst (pc := 10) d_Gr_weaveTimes_10 (v := 0) (by decide) ?_
  refine r_istore (pc := 11) (hd := d_Gr_weaveTimes_11) (hi := by decide) (ls2 := [.ref a, .int p0, .int 0, .int x2, .int 1, .int 0, .null, .null, .null]) (h2 := rfl) ?_
  exact h
set_option maxRecDepth 4000 in
theorem s_Gr_weaveTimes_13 {l : Launch} {d : Nat} {sh : aw_SH} {S : aw_S} {P : Int32 → aw_S → Prop} {a : Nat} {i1 : Int32} {i2 : Int32} {i3 : Int32} {i4 : Int32} {i5 : Int32} (sa : sh[a]? = some (0, 2)) (h : ((i1 ≤ i5 → P i2 S) ∧ (¬ i1 ≤ i5 → ((i4 = 0 → P i2 S) ∧ (¬ i4 = 0 → AW l m_Gr_weaveTimes (d + 1) 0 0 (gI sh P) 0 0 30 [.ref a, .int i1, .int i2, .int i3, .null, .int i5, .int i2, .int 0, .null] [] sh S))))) : AW l m_Gr_weaveTimes (d + 1) 0 0 (gI sh P) 0 0 13 [.ref a, .int i1, .int i2, .int i3, .int i4, .int i5, .null, .null, .null] [] sh S := by
  refine r_iload (pc := 13) d_Gr_weaveTimes_13 (x := i5) rfl ?_
  refine r_iload_n (pc := 15) d_Gr_weaveTimes_15 (x := i1) rfl ?_
  refine r_icmp_ge (pc := 16) d_Gr_weaveTimes_16 (tgt := 136) (by decide) (fun c1 => ?_) (fun c1 => ?_)
  · replace h := h.1 c1
    refine r_iload_n (pc := 136) d_Gr_weaveTimes_136 (x := i2) rfl ?_
    exact r_ireturn (pc := 137) d_Gr_weaveTimes_137 rfl rfl (Nat.le_refl _) ⟨rfl, _, rfl, h⟩
  · replace h := h.2 c1
    refine r_iload (pc := 19) d_Gr_weaveTimes_19 (x := i4) rfl ?_
    refine r_if_eq (pc := 21) d_Gr_weaveTimes_21 (tgt := 136) (by decide) (fun c2 => ?_) (fun c2 => ?_)
    · replace h := h.1 c2
      refine r_iload_n (pc := 136) d_Gr_weaveTimes_136 (x := i2) rfl ?_
      exact r_ireturn (pc := 137) d_Gr_weaveTimes_137 rfl rfl (Nat.le_refl _) ⟨rfl, _, rfl, h⟩
    · replace h := h.2 c2
      refine r_iload_n (pc := 24) d_Gr_weaveTimes_24 (x := i2) rfl ?_
      refine r_istore (pc := 25) (hd := d_Gr_weaveTimes_25) (hi := by decide) (ls2 := [.ref a, .int i1, .int i2, .int i3, .int i4, .int i5, .int i2, .null, .null]) (h2 := rfl) ?_
      refine r_iconst (pc := 27) d_Gr_weaveTimes_27 (v := 0) (by decide) ?_
      refine r_istore (pc := 28) (hd := d_Gr_weaveTimes_28) (hi := by decide) (ls2 := [.ref a, .int i1, .int i2, .int i3, .int i4, .int i5, .int i2, .int 0, .null]) (h2 := rfl) ?_
      exact r_weak (ls2 := [.ref a, .int i1, .int i2, .int i3, .null, .int i5, .int i2, .int 0, .null]) ⟨Or.inr rfl, Or.inr rfl, Or.inr rfl, Or.inr rfl, Or.inl rfl, Or.inr rfl, Or.inr rfl, Or.inr rfl, Or.inl rfl, trivial⟩ h
set_option maxRecDepth 4000 in
theorem s_Gr_weaveTimes_30 {l : Launch} {d : Nat} {sh : aw_SH} {S : aw_S} {P : Int32 → aw_S → Prop} {a : Nat} {i1 : Int32} {i2 : Int32} {i3 : Int32} {i5 : Int32} {i6 : Int32} {i7 : Int32} (sa : sh[a]? = some (0, 2)) (h : ((i3 ≤ i7 → AW l m_Gr_weaveTimes (d + 1) 0 0 (gI sh P) 0 0 90 [.ref a, .int i1, .int i2, .int i3, .null, .int i5, .int i6, .int 1, .null] [] sh S) ∧ (¬ i3 ≤ i7 → ((i7 ≤ 0 → Sp l m_Gr_makePass d 0 0 [.ref a, .int (((2 : Int32) * i7) + (1 : Int32))] sh S (gI sh (fun x5 S4 => ((x5 = (-1) → AW l m_Gr_weaveTimes (d + 1) 0 0 (gI sh P) 0 0 30 [.ref a, .int i1, .int i2, .int i3, .null, .int i5, .int i6, .int (i7 + 2), .null] [] sh S4) ∧ (¬ x5 = (-1) → AW l m_Gr_weaveTimes (d + 1) 0 0 (gI sh P) 0 0 30 [.ref a, .int i1, .int (i2 + 1), .int i3, .null, .int i5, .int i6, .int (i7 + 2), .null] [] sh S4))))) ∧ (¬ i7 ≤ 0 → Sp l m_Gr_touching d 0 0 [.ref a, .int i7] sh S (gI sh (fun x8 S7 => (((x8 &&& (1 : Int32)) = 0 → Sp l m_Gr_makePass d 0 0 [.ref a, .int (((2 : Int32) * i7) + (1 : Int32))] sh S7 (gI sh (fun x12 S11 => ((x12 = (-1) → AW l m_Gr_weaveTimes (d + 1) 0 0 (gI sh P) 0 0 30 [.ref a, .int i1, .int i2, .int i3, .null, .int i5, .int i6, .int (i7 + 2), .null] [] sh S11) ∧ (¬ x12 = (-1) → AW l m_Gr_weaveTimes (d + 1) 0 0 (gI sh P) 0 0 30 [.ref a, .int i1, .int (i2 + 1), .int i3, .null, .int i5, .int i6, .int (i7 + 2), .null] [] sh S11))))) ∧ (¬ (x8 &&& (1 : Int32)) = 0 → AW l m_Gr_weaveTimes (d + 1) 0 0 (gI sh P) 0 0 30 [.ref a, .int i1, .int i2, .int i3, .null, .int i5, .int i6, .int (i7 + 2), .null] [] sh S7))))))))) : AW l m_Gr_weaveTimes (d + 1) 0 0 (gI sh P) 0 0 30 [.ref a, .int i1, .int i2, .int i3, .null, .int i5, .int i6, .int i7, .null] [] sh S := by
  refine r_iload (pc := 30) d_Gr_weaveTimes_30 (x := i7) rfl ?_
  refine r_iload_n (pc := 32) d_Gr_weaveTimes_32 (x := i3) rfl ?_
  refine r_icmp_ge (pc := 33) d_Gr_weaveTimes_33 (tgt := 87) (by decide) (fun c1 => ?_) (fun c1 => ?_)
  · replace h := h.1 c1
    refine r_iconst (pc := 87) d_Gr_weaveTimes_87 (v := 1) (by decide) ?_
    refine r_istore (pc := 88) (hd := d_Gr_weaveTimes_88) (hi := by decide) (ls2 := [.ref a, .int i1, .int i2, .int i3, .null, .int i5, .int i6, .int 1, .null]) (h2 := rfl) ?_
    exact h
  · replace h := h.2 c1
    refine r_iload (pc := 36) d_Gr_weaveTimes_36 (x := i7) rfl ?_
    refine r_if_le (pc := 38) d_Gr_weaveTimes_38 (tgt := 56) (by decide) (fun c2 => ?_) (fun c2 => ?_)
    · replace h := h.1 c2
      refine r_iconst (pc := 56) d_Gr_weaveTimes_56 (v := 0) (by decide) ?_
      refine r_istore (pc := 57) (hd := d_Gr_weaveTimes_57) (hi := by decide) (ls2 := [.ref a, .int i1, .int i2, .int i3, .null, .int i5, .int i6, .int i7, .int 0]) (h2 := rfl) ?_
      refine r_iload (pc := 59) d_Gr_weaveTimes_59 (x := 0) rfl ?_
      refine r_if_ne (pc := 61) d_Gr_weaveTimes_61 (tgt := 81) (by decide) (fun q => absurd q (by decide)) (fun _ => ?_)
      refine r_aload_n (pc := 64) d_Gr_weaveTimes_64 (x := a) rfl ?_
      refine r_iconst (pc := 65) d_Gr_weaveTimes_65 (v := 2) (by decide) ?_
      refine r_iload (pc := 66) d_Gr_weaveTimes_66 (x := i7) rfl ?_
      refine r_imul (pc := 68) d_Gr_weaveTimes_68 ?_
      refine r_iconst (pc := 69) d_Gr_weaveTimes_69 (v := 1) (by decide) ?_
      refine r_iadd (pc := 70) d_Gr_weaveTimes_70 ?_
      refine r_callV (pc := 71) (k := a) (As := [.int (((2 : Int32) * i7) + (1 : Int32))]) (rest := []) (mc' := 0) (ms' := 0) lk_Gr_121 in_Gr_makePass se_Gr_makePass sa rfl d_Gr_weaveTimes_71 k_Gr_makePass rfl rfl (Nat.le_of_ble_eq_true rfl) (by decide) (by decide) (Sp.mono h ?_)
      rintro rS4 shS4 S4 ⟨qS4, x5, uS4, h⟩
      subst uS4
      rw [qS4]
      refine r_iconst (pc := 74) d_Gr_weaveTimes_74 (v := (-1)) (by decide) ?_
      refine r_icmp_eq (pc := 75) d_Gr_weaveTimes_75 (tgt := 81) (by decide) (fun c6 => ?_) (fun c6 => ?_)
      · replace h := h.1 c6
        refine r_iinc (pc := 81) d_Gr_weaveTimes_81 (hi := by decide) (x := i7) rfl (v := i7 + 2) rfl (ls2 := [.ref a, .int i1, .int i2, .int i3, .null, .int i5, .int i6, .int (i7 + 2), .int 0]) rfl ?_
        refine r_goto (pc := 84) d_Gr_weaveTimes_84 (tgt := 30) (by decide) ?_
        exact r_weak (ls2 := [.ref a, .int i1, .int i2, .int i3, .null, .int i5, .int i6, .int (i7 + 2), .null]) ⟨Or.inr rfl, Or.inr rfl, Or.inr rfl, Or.inr rfl, Or.inl rfl, Or.inr rfl, Or.inr rfl, Or.inr rfl, Or.inl rfl, trivial⟩ h
      · replace h := h.2 c6
        refine r_iinc (pc := 78) d_Gr_weaveTimes_78 (hi := by decide) (x := i2) rfl (v := i2 + 1) rfl (ls2 := [.ref a, .int i1, .int (i2 + 1), .int i3, .null, .int i5, .int i6, .int i7, .int 0]) rfl ?_
        refine r_iinc (pc := 81) d_Gr_weaveTimes_81 (hi := by decide) (x := i7) rfl (v := i7 + 2) rfl (ls2 := [.ref a, .int i1, .int (i2 + 1), .int i3, .null, .int i5, .int i6, .int (i7 + 2), .int 0]) rfl ?_
        refine r_goto (pc := 84) d_Gr_weaveTimes_84 (tgt := 30) (by decide) ?_
        exact r_weak (ls2 := [.ref a, .int i1, .int (i2 + 1), .int i3, .null, .int i5, .int i6, .int (i7 + 2), .null]) ⟨Or.inr rfl, Or.inr rfl, Or.inr rfl, Or.inr rfl, Or.inl rfl, Or.inr rfl, Or.inr rfl, Or.inr rfl, Or.inl rfl, trivial⟩ h
    · replace h := h.2 c2
      refine r_aload_n (pc := 41) d_Gr_weaveTimes_41 (x := a) rfl ?_
      refine r_iload (pc := 42) d_Gr_weaveTimes_42 (x := i7) rfl ?_
      refine r_callV (pc := 44) (k := a) (As := [.int i7]) (rest := []) (mc' := 0) (ms' := 0) lk_Gr_92 in_Gr_touching se_Gr_touching sa rfl d_Gr_weaveTimes_44 k_Gr_touching rfl rfl (Nat.le_of_ble_eq_true rfl) (by decide) (by decide) (Sp.mono h ?_)
      rintro rS7 shS7 S7 ⟨qS7, x8, uS7, h⟩
      subst uS7
      rw [qS7]
      refine r_iconst (pc := 47) d_Gr_weaveTimes_47 (v := 1) (by decide) ?_
      refine r_iand (pc := 48) d_Gr_weaveTimes_48 ?_
      refine r_if_eq (pc := 49) d_Gr_weaveTimes_49 (tgt := 56) (by decide) (fun c9 => ?_) (fun c9 => ?_)
      · replace h := h.1 c9
        refine r_iconst (pc := 56) d_Gr_weaveTimes_56 (v := 0) (by decide) ?_
        refine r_istore (pc := 57) (hd := d_Gr_weaveTimes_57) (hi := by decide) (ls2 := [.ref a, .int i1, .int i2, .int i3, .null, .int i5, .int i6, .int i7, .int 0]) (h2 := rfl) ?_
        refine r_iload (pc := 59) d_Gr_weaveTimes_59 (x := 0) rfl ?_
        refine r_if_ne (pc := 61) d_Gr_weaveTimes_61 (tgt := 81) (by decide) (fun q => absurd q (by decide)) (fun _ => ?_)
        refine r_aload_n (pc := 64) d_Gr_weaveTimes_64 (x := a) rfl ?_
        refine r_iconst (pc := 65) d_Gr_weaveTimes_65 (v := 2) (by decide) ?_
        refine r_iload (pc := 66) d_Gr_weaveTimes_66 (x := i7) rfl ?_
        refine r_imul (pc := 68) d_Gr_weaveTimes_68 ?_
        refine r_iconst (pc := 69) d_Gr_weaveTimes_69 (v := 1) (by decide) ?_
        refine r_iadd (pc := 70) d_Gr_weaveTimes_70 ?_
        refine r_callV (pc := 71) (k := a) (As := [.int (((2 : Int32) * i7) + (1 : Int32))]) (rest := []) (mc' := 0) (ms' := 0) lk_Gr_121 in_Gr_makePass se_Gr_makePass sa rfl d_Gr_weaveTimes_71 k_Gr_makePass rfl rfl (Nat.le_of_ble_eq_true rfl) (by decide) (by decide) (Sp.mono h ?_)
        rintro rS11 shS11 S11 ⟨qS11, x12, uS11, h⟩
        subst uS11
        rw [qS11]
        refine r_iconst (pc := 74) d_Gr_weaveTimes_74 (v := (-1)) (by decide) ?_
        refine r_icmp_eq (pc := 75) d_Gr_weaveTimes_75 (tgt := 81) (by decide) (fun c13 => ?_) (fun c13 => ?_)
        · replace h := h.1 c13
          refine r_iinc (pc := 81) d_Gr_weaveTimes_81 (hi := by decide) (x := i7) rfl (v := i7 + 2) rfl (ls2 := [.ref a, .int i1, .int i2, .int i3, .null, .int i5, .int i6, .int (i7 + 2), .int 0]) rfl ?_
          refine r_goto (pc := 84) d_Gr_weaveTimes_84 (tgt := 30) (by decide) ?_
          exact r_weak (ls2 := [.ref a, .int i1, .int i2, .int i3, .null, .int i5, .int i6, .int (i7 + 2), .null]) ⟨Or.inr rfl, Or.inr rfl, Or.inr rfl, Or.inr rfl, Or.inl rfl, Or.inr rfl, Or.inr rfl, Or.inr rfl, Or.inl rfl, trivial⟩ h
        · replace h := h.2 c13
          refine r_iinc (pc := 78) d_Gr_weaveTimes_78 (hi := by decide) (x := i2) rfl (v := i2 + 1) rfl (ls2 := [.ref a, .int i1, .int (i2 + 1), .int i3, .null, .int i5, .int i6, .int i7, .int 0]) rfl ?_
          refine r_iinc (pc := 81) d_Gr_weaveTimes_81 (hi := by decide) (x := i7) rfl (v := i7 + 2) rfl (ls2 := [.ref a, .int i1, .int (i2 + 1), .int i3, .null, .int i5, .int i6, .int (i7 + 2), .int 0]) rfl ?_
          refine r_goto (pc := 84) d_Gr_weaveTimes_84 (tgt := 30) (by decide) ?_
          exact r_weak (ls2 := [.ref a, .int i1, .int (i2 + 1), .int i3, .null, .int i5, .int i6, .int (i7 + 2), .null]) ⟨Or.inr rfl, Or.inr rfl, Or.inr rfl, Or.inr rfl, Or.inl rfl, Or.inr rfl, Or.inr rfl, Or.inr rfl, Or.inl rfl, trivial⟩ h
      · replace h := h.2 c9
        refine r_iconst (pc := 52) d_Gr_weaveTimes_52 (v := 1) (by decide) ?_
        refine r_goto (pc := 53) d_Gr_weaveTimes_53 (tgt := 57) (by decide) ?_
        refine r_istore (pc := 57) (hd := d_Gr_weaveTimes_57) (hi := by decide) (ls2 := [.ref a, .int i1, .int i2, .int i3, .null, .int i5, .int i6, .int i7, .int 1]) (h2 := rfl) ?_
        refine r_iload (pc := 59) d_Gr_weaveTimes_59 (x := 1) rfl ?_
        refine r_if_ne (pc := 61) d_Gr_weaveTimes_61 (tgt := 81) (by decide) (fun _ => ?_) (fun q => absurd q (by decide))
        refine r_iinc (pc := 81) d_Gr_weaveTimes_81 (hi := by decide) (x := i7) rfl (v := i7 + 2) rfl (ls2 := [.ref a, .int i1, .int i2, .int i3, .null, .int i5, .int i6, .int (i7 + 2), .int 1]) rfl ?_
        refine r_goto (pc := 84) d_Gr_weaveTimes_84 (tgt := 30) (by decide) ?_
        exact r_weak (ls2 := [.ref a, .int i1, .int i2, .int i3, .null, .int i5, .int i6, .int (i7 + 2), .null]) ⟨Or.inr rfl, Or.inr rfl, Or.inr rfl, Or.inr rfl, Or.inl rfl, Or.inr rfl, Or.inr rfl, Or.inr rfl, Or.inl rfl, trivial⟩ h
set_option maxRecDepth 4000 in
theorem s_Gr_weaveTimes_90 {l : Launch} {d : Nat} {sh : aw_SH} {S : aw_S} {P : Int32 → aw_S → Prop} {a : Nat} {i1 : Int32} {i2 : Int32} {i3 : Int32} {i5 : Int32} {i6 : Int32} {i7 : Int32} (sa : sh[a]? = some (0, 2)) (h : ((i3 ≤ i7 → ((i2 ≤ i6 → AW l m_Gr_weaveTimes (d + 1) 0 0 (gI sh P) 0 0 13 [.ref a, .int i1, .int i2, .int i3, .int 0, .int (i5 + 1), .null, .null, .null] [] sh S) ∧ (¬ i2 ≤ i6 → AW l m_Gr_weaveTimes (d + 1) 0 0 (gI sh P) 0 0 13 [.ref a, .int i1, .int i2, .int i3, .int 1, .int (i5 + 1), .null, .null, .null] [] sh S))) ∧ (¬ i3 ≤ i7 → Sp l m_Gr_makePass d 0 0 [.ref a, .int ((2 : Int32) * i7)] sh S (gI sh (fun x4 S3 => ((x4 = (-1) → AW l m_Gr_weaveTimes (d + 1) 0 0 (gI sh P) 0 0 90 [.ref a, .int i1, .int i2, .int i3, .null, .int i5, .int i6, .int (i7 + 2), .null] [] sh S3) ∧ (¬ x4 = (-1) → AW l m_Gr_weaveTimes (d + 1) 0 0 (gI sh P) 0 0 90 [.ref a, .int i1, .int (i2 + 1), .int i3, .null, .int i5, .int i6, .int (i7 + 2), .null] [] sh S3))))))) : AW l m_Gr_weaveTimes (d + 1) 0 0 (gI sh P) 0 0 90 [.ref a, .int i1, .int i2, .int i3, .null, .int i5, .int i6, .int i7, .null] [] sh S := by
  refine r_iload (pc := 90) d_Gr_weaveTimes_90 (x := i7) rfl ?_
  refine r_iload_n (pc := 92) d_Gr_weaveTimes_92 (x := i3) rfl ?_
  refine r_icmp_ge (pc := 93) d_Gr_weaveTimes_93 (tgt := 117) (by decide) (fun c1 => ?_) (fun c1 => ?_)
  · replace h := h.1 c1
    refine r_iload_n (pc := 117) d_Gr_weaveTimes_117 (x := i2) rfl ?_
    refine r_iload (pc := 118) d_Gr_weaveTimes_118 (x := i6) rfl ?_
    refine r_icmp_le (pc := 120) d_Gr_weaveTimes_120 (tgt := 127) (by decide) (fun c2 => ?_) (fun c2 => ?_)
    · replace h := h.1 c2
      refine r_iconst (pc := 127) d_Gr_weaveTimes_127 (v := 0) (by decide) ?_
      refine r_istore (pc := 128) (hd := d_Gr_weaveTimes_128) (hi := by decide) (ls2 := [.ref a, .int i1, .int i2, .int i3, .int 0, .int i5, .int i6, .int i7, .null]) (h2 := rfl) ?_
      refine r_iinc (pc := 130) d_Gr_weaveTimes_130 (hi := by decide) (x := i5) rfl (v := i5 + 1) rfl (ls2 := [.ref a, .int i1, .int i2, .int i3, .int 0, .int (i5 + 1), .int i6, .int i7, .null]) rfl ?_
      refine r_goto (pc := 133) d_Gr_weaveTimes_133 (tgt := 13) (by decide) ?_
      exact r_weak (ls2 := [.ref a, .int i1, .int i2, .int i3, .int 0, .int (i5 + 1), .null, .null, .null]) ⟨Or.inr rfl, Or.inr rfl, Or.inr rfl, Or.inr rfl, Or.inr rfl, Or.inr rfl, Or.inl rfl, Or.inl rfl, Or.inl rfl, trivial⟩ h
    · replace h := h.2 c2
      refine r_iconst (pc := 123) d_Gr_weaveTimes_123 (v := 1) (by decide) ?_
      refine r_goto (pc := 124) d_Gr_weaveTimes_124 (tgt := 128) (by decide) ?_
      refine r_istore (pc := 128) (hd := d_Gr_weaveTimes_128) (hi := by decide) (ls2 := [.ref a, .int i1, .int i2, .int i3, .int 1, .int i5, .int i6, .int i7, .null]) (h2 := rfl) ?_
      refine r_iinc (pc := 130) d_Gr_weaveTimes_130 (hi := by decide) (x := i5) rfl (v := i5 + 1) rfl (ls2 := [.ref a, .int i1, .int i2, .int i3, .int 1, .int (i5 + 1), .int i6, .int i7, .null]) rfl ?_
      refine r_goto (pc := 133) d_Gr_weaveTimes_133 (tgt := 13) (by decide) ?_
      exact r_weak (ls2 := [.ref a, .int i1, .int i2, .int i3, .int 1, .int (i5 + 1), .null, .null, .null]) ⟨Or.inr rfl, Or.inr rfl, Or.inr rfl, Or.inr rfl, Or.inr rfl, Or.inr rfl, Or.inl rfl, Or.inl rfl, Or.inl rfl, trivial⟩ h
  · replace h := h.2 c1
    refine r_aload_n (pc := 96) d_Gr_weaveTimes_96 (x := a) rfl ?_
    refine r_iconst (pc := 97) d_Gr_weaveTimes_97 (v := 2) (by decide) ?_
    refine r_iload (pc := 98) d_Gr_weaveTimes_98 (x := i7) rfl ?_
    refine r_imul (pc := 100) d_Gr_weaveTimes_100 ?_
    refine r_callV (pc := 101) (k := a) (As := [.int ((2 : Int32) * i7)]) (rest := []) (mc' := 0) (ms' := 0) lk_Gr_121 in_Gr_makePass se_Gr_makePass sa rfl d_Gr_weaveTimes_101 k_Gr_makePass rfl rfl (Nat.le_of_ble_eq_true rfl) (by decide) (by decide) (Sp.mono h ?_)
    rintro rS3 shS3 S3 ⟨qS3, x4, uS3, h⟩
    subst uS3
    rw [qS3]
    refine r_iconst (pc := 104) d_Gr_weaveTimes_104 (v := (-1)) (by decide) ?_
    refine r_icmp_eq (pc := 105) d_Gr_weaveTimes_105 (tgt := 111) (by decide) (fun c5 => ?_) (fun c5 => ?_)
    · replace h := h.1 c5
      refine r_iinc (pc := 111) d_Gr_weaveTimes_111 (hi := by decide) (x := i7) rfl (v := i7 + 2) rfl (ls2 := [.ref a, .int i1, .int i2, .int i3, .null, .int i5, .int i6, .int (i7 + 2), .null]) rfl ?_
      refine r_goto (pc := 114) d_Gr_weaveTimes_114 (tgt := 90) (by decide) ?_
      exact h
    · replace h := h.2 c5
      refine r_iinc (pc := 108) d_Gr_weaveTimes_108 (hi := by decide) (x := i2) rfl (v := i2 + 1) rfl (ls2 := [.ref a, .int i1, .int (i2 + 1), .int i3, .null, .int i5, .int i6, .int i7, .null]) rfl ?_
      refine r_iinc (pc := 111) d_Gr_weaveTimes_111 (hi := by decide) (x := i7) rfl (v := i7 + 2) rfl (ls2 := [.ref a, .int i1, .int (i2 + 1), .int i3, .null, .int i5, .int i6, .int (i7 + 2), .null]) rfl ?_
      refine r_goto (pc := 114) d_Gr_weaveTimes_114 (tgt := 90) (by decide) ?_
      exact h
set_option maxRecDepth 4000 in
theorem e_Gr_copyFrom {l : Launch} {d : Nat} {sh : aw_SH} {S : aw_S} {P : aw_S → Prop} {a : Nat} {p0 : Nat} (sa : sh[a]? = some (0, 2)) (h : sh[p0]? = some (0, 2) ∧ ∃ r2, (aw_uI (aw_uI (aw_uI (aw_uI (aw_uI S a 0 (S.1 p0 0)) a 1 ((aw_uI S a 0 (S.1 p0 0)).1 p0 1)) a 2 ((aw_uI (aw_uI S a 0 (S.1 p0 0)) a 1 ((aw_uI S a 0 (S.1 p0 0)).1 p0 1)).1 p0 2)) a 3 ((aw_uI (aw_uI (aw_uI S a 0 (S.1 p0 0)) a 1 ((aw_uI S a 0 (S.1 p0 0)).1 p0 1)) a 2 ((aw_uI (aw_uI S a 0 (S.1 p0 0)) a 1 ((aw_uI S a 0 (S.1 p0 0)).1 p0 1)).1 p0 2)).1 p0 3)) a 4 ((aw_uI (aw_uI (aw_uI (aw_uI S a 0 (S.1 p0 0)) a 1 ((aw_uI S a 0 (S.1 p0 0)).1 p0 1)) a 2 ((aw_uI (aw_uI S a 0 (S.1 p0 0)) a 1 ((aw_uI S a 0 (S.1 p0 0)).1 p0 1)).1 p0 2)) a 3 ((aw_uI (aw_uI (aw_uI S a 0 (S.1 p0 0)) a 1 ((aw_uI S a 0 (S.1 p0 0)).1 p0 1)) a 2 ((aw_uI (aw_uI S a 0 (S.1 p0 0)) a 1 ((aw_uI S a 0 (S.1 p0 0)).1 p0 1)).1 p0 2)).1 p0 3)).1 p0 4)).2.2 p0 5 = some r2 ∧ ∃ r3, (aw_uI (aw_uI (aw_uI (aw_uI (aw_uI S a 0 (S.1 p0 0)) a 1 ((aw_uI S a 0 (S.1 p0 0)).1 p0 1)) a 2 ((aw_uI (aw_uI S a 0 (S.1 p0 0)) a 1 ((aw_uI S a 0 (S.1 p0 0)).1 p0 1)).1 p0 2)) a 3 ((aw_uI (aw_uI (aw_uI S a 0 (S.1 p0 0)) a 1 ((aw_uI S a 0 (S.1 p0 0)).1 p0 1)) a 2 ((aw_uI (aw_uI S a 0 (S.1 p0 0)) a 1 ((aw_uI S a 0 (S.1 p0 0)).1 p0 1)).1 p0 2)).1 p0 3)) a 4 ((aw_uI (aw_uI (aw_uI (aw_uI S a 0 (S.1 p0 0)) a 1 ((aw_uI S a 0 (S.1 p0 0)).1 p0 1)) a 2 ((aw_uI (aw_uI S a 0 (S.1 p0 0)) a 1 ((aw_uI S a 0 (S.1 p0 0)).1 p0 1)).1 p0 2)) a 3 ((aw_uI (aw_uI (aw_uI S a 0 (S.1 p0 0)) a 1 ((aw_uI S a 0 (S.1 p0 0)).1 p0 1)) a 2 ((aw_uI (aw_uI S a 0 (S.1 p0 0)) a 1 ((aw_uI S a 0 (S.1 p0 0)).1 p0 1)).1 p0 2)).1 p0 3)).1 p0 4)).2.2 a 5 = some r3 ∧ ∃ n5, sh[r2]? = some (4, n5) ∧ ∃ n7, sh[r3]? = some (4, n7) ∧ ¬ (0 : Int32) < 0 ∧ ¬ (0 : Int32) < 0 ∧ ¬ (7 : Int32) < 0 ∧ (0 : Int32).toNatClampNeg + (7 : Int32).toNatClampNeg ≤ n5 ∧ (0 : Int32).toNatClampNeg + (7 : Int32).toNatClampNeg ≤ n7 ∧ ∃ r13, (aw_cpl (aw_uI (aw_uI (aw_uI (aw_uI (aw_uI S a 0 (S.1 p0 0)) a 1 ((aw_uI S a 0 (S.1 p0 0)).1 p0 1)) a 2 ((aw_uI (aw_uI S a 0 (S.1 p0 0)) a 1 ((aw_uI S a 0 (S.1 p0 0)).1 p0 1)).1 p0 2)) a 3 ((aw_uI (aw_uI (aw_uI S a 0 (S.1 p0 0)) a 1 ((aw_uI S a 0 (S.1 p0 0)).1 p0 1)) a 2 ((aw_uI (aw_uI S a 0 (S.1 p0 0)) a 1 ((aw_uI S a 0 (S.1 p0 0)).1 p0 1)).1 p0 2)).1 p0 3)) a 4 ((aw_uI (aw_uI (aw_uI (aw_uI S a 0 (S.1 p0 0)) a 1 ((aw_uI S a 0 (S.1 p0 0)).1 p0 1)) a 2 ((aw_uI (aw_uI S a 0 (S.1 p0 0)) a 1 ((aw_uI S a 0 (S.1 p0 0)).1 p0 1)).1 p0 2)) a 3 ((aw_uI (aw_uI (aw_uI S a 0 (S.1 p0 0)) a 1 ((aw_uI S a 0 (S.1 p0 0)).1 p0 1)) a 2 ((aw_uI (aw_uI S a 0 (S.1 p0 0)) a 1 ((aw_uI S a 0 (S.1 p0 0)).1 p0 1)).1 p0 2)).1 p0 3)).1 p0 4)) r2 r3 0 0 7).2.2 p0 6 = some r13 ∧ ∃ r14, (aw_cpl (aw_uI (aw_uI (aw_uI (aw_uI (aw_uI S a 0 (S.1 p0 0)) a 1 ((aw_uI S a 0 (S.1 p0 0)).1 p0 1)) a 2 ((aw_uI (aw_uI S a 0 (S.1 p0 0)) a 1 ((aw_uI S a 0 (S.1 p0 0)).1 p0 1)).1 p0 2)) a 3 ((aw_uI (aw_uI (aw_uI S a 0 (S.1 p0 0)) a 1 ((aw_uI S a 0 (S.1 p0 0)).1 p0 1)) a 2 ((aw_uI (aw_uI S a 0 (S.1 p0 0)) a 1 ((aw_uI S a 0 (S.1 p0 0)).1 p0 1)).1 p0 2)).1 p0 3)) a 4 ((aw_uI (aw_uI (aw_uI (aw_uI S a 0 (S.1 p0 0)) a 1 ((aw_uI S a 0 (S.1 p0 0)).1 p0 1)) a 2 ((aw_uI (aw_uI S a 0 (S.1 p0 0)) a 1 ((aw_uI S a 0 (S.1 p0 0)).1 p0 1)).1 p0 2)) a 3 ((aw_uI (aw_uI (aw_uI S a 0 (S.1 p0 0)) a 1 ((aw_uI S a 0 (S.1 p0 0)).1 p0 1)) a 2 ((aw_uI (aw_uI S a 0 (S.1 p0 0)) a 1 ((aw_uI S a 0 (S.1 p0 0)).1 p0 1)).1 p0 2)).1 p0 3)).1 p0 4)) r2 r3 0 0 7).2.2 a 6 = some r14 ∧ ∃ n16, sh[r13]? = some (3, n16) ∧ ∃ n18, sh[r14]? = some (3, n18) ∧ ¬ (0 : Int32) < 0 ∧ ¬ (0 : Int32) < 0 ∧ ¬ (7 : Int32) < 0 ∧ (0 : Int32).toNatClampNeg + (7 : Int32).toNatClampNeg ≤ n16 ∧ (0 : Int32).toNatClampNeg + (7 : Int32).toNatClampNeg ≤ n18 ∧ ∃ r24, (aw_cpi (aw_cpl (aw_uI (aw_uI (aw_uI (aw_uI (aw_uI S a 0 (S.1 p0 0)) a 1 ((aw_uI S a 0 (S.1 p0 0)).1 p0 1)) a 2 ((aw_uI (aw_uI S a 0 (S.1 p0 0)) a 1 ((aw_uI S a 0 (S.1 p0 0)).1 p0 1)).1 p0 2)) a 3 ((aw_uI (aw_uI (aw_uI S a 0 (S.1 p0 0)) a 1 ((aw_uI S a 0 (S.1 p0 0)).1 p0 1)) a 2 ((aw_uI (aw_uI S a 0 (S.1 p0 0)) a 1 ((aw_uI S a 0 (S.1 p0 0)).1 p0 1)).1 p0 2)).1 p0 3)) a 4 ((aw_uI (aw_uI (aw_uI (aw_uI S a 0 (S.1 p0 0)) a 1 ((aw_uI S a 0 (S.1 p0 0)).1 p0 1)) a 2 ((aw_uI (aw_uI S a 0 (S.1 p0 0)) a 1 ((aw_uI S a 0 (S.1 p0 0)).1 p0 1)).1 p0 2)) a 3 ((aw_uI (aw_uI (aw_uI S a 0 (S.1 p0 0)) a 1 ((aw_uI S a 0 (S.1 p0 0)).1 p0 1)) a 2 ((aw_uI (aw_uI S a 0 (S.1 p0 0)) a 1 ((aw_uI S a 0 (S.1 p0 0)).1 p0 1)).1 p0 2)).1 p0 3)).1 p0 4)) r2 r3 0 0 7) r13 r14 0 0 7).2.2 p0 7 = some r24 ∧ ∃ r25, (aw_cpi (aw_cpl (aw_uI (aw_uI (aw_uI (aw_uI (aw_uI S a 0 (S.1 p0 0)) a 1 ((aw_uI S a 0 (S.1 p0 0)).1 p0 1)) a 2 ((aw_uI (aw_uI S a 0 (S.1 p0 0)) a 1 ((aw_uI S a 0 (S.1 p0 0)).1 p0 1)).1 p0 2)) a 3 ((aw_uI (aw_uI (aw_uI S a 0 (S.1 p0 0)) a 1 ((aw_uI S a 0 (S.1 p0 0)).1 p0 1)) a 2 ((aw_uI (aw_uI S a 0 (S.1 p0 0)) a 1 ((aw_uI S a 0 (S.1 p0 0)).1 p0 1)).1 p0 2)).1 p0 3)) a 4 ((aw_uI (aw_uI (aw_uI (aw_uI S a 0 (S.1 p0 0)) a 1 ((aw_uI S a 0 (S.1 p0 0)).1 p0 1)) a 2 ((aw_uI (aw_uI S a 0 (S.1 p0 0)) a 1 ((aw_uI S a 0 (S.1 p0 0)).1 p0 1)).1 p0 2)) a 3 ((aw_uI (aw_uI (aw_uI S a 0 (S.1 p0 0)) a 1 ((aw_uI S a 0 (S.1 p0 0)).1 p0 1)) a 2 ((aw_uI (aw_uI S a 0 (S.1 p0 0)) a 1 ((aw_uI S a 0 (S.1 p0 0)).1 p0 1)).1 p0 2)).1 p0 3)).1 p0 4)) r2 r3 0 0 7) r13 r14 0 0 7).2.2 a 7 = some r25 ∧ ∃ n27, sh[r24]? = some (3, n27) ∧ ∃ n29, sh[r25]? = some (3, n29) ∧ ¬ (0 : Int32) < 0 ∧ ¬ (0 : Int32) < 0 ∧ ¬ (7 : Int32) < 0 ∧ (0 : Int32).toNatClampNeg + (7 : Int32).toNatClampNeg ≤ n27 ∧ (0 : Int32).toNatClampNeg + (7 : Int32).toNatClampNeg ≤ n29 ∧ ∃ r35, (aw_cpi (aw_cpi (aw_cpl (aw_uI (aw_uI (aw_uI (aw_uI (aw_uI S a 0 (S.1 p0 0)) a 1 ((aw_uI S a 0 (S.1 p0 0)).1 p0 1)) a 2 ((aw_uI (aw_uI S a 0 (S.1 p0 0)) a 1 ((aw_uI S a 0 (S.1 p0 0)).1 p0 1)).1 p0 2)) a 3 ((aw_uI (aw_uI (aw_uI S a 0 (S.1 p0 0)) a 1 ((aw_uI S a 0 (S.1 p0 0)).1 p0 1)) a 2 ((aw_uI (aw_uI S a 0 (S.1 p0 0)) a 1 ((aw_uI S a 0 (S.1 p0 0)).1 p0 1)).1 p0 2)).1 p0 3)) a 4 ((aw_uI (aw_uI (aw_uI (aw_uI S a 0 (S.1 p0 0)) a 1 ((aw_uI S a 0 (S.1 p0 0)).1 p0 1)) a 2 ((aw_uI (aw_uI S a 0 (S.1 p0 0)) a 1 ((aw_uI S a 0 (S.1 p0 0)).1 p0 1)).1 p0 2)) a 3 ((aw_uI (aw_uI (aw_uI S a 0 (S.1 p0 0)) a 1 ((aw_uI S a 0 (S.1 p0 0)).1 p0 1)) a 2 ((aw_uI (aw_uI S a 0 (S.1 p0 0)) a 1 ((aw_uI S a 0 (S.1 p0 0)).1 p0 1)).1 p0 2)).1 p0 3)).1 p0 4)) r2 r3 0 0 7) r13 r14 0 0 7) r24 r25 0 0 7).2.2 p0 8 = some r35 ∧ ∃ r36, (aw_cpi (aw_cpi (aw_cpl (aw_uI (aw_uI (aw_uI (aw_uI (aw_uI S a 0 (S.1 p0 0)) a 1 ((aw_uI S a 0 (S.1 p0 0)).1 p0 1)) a 2 ((aw_uI (aw_uI S a 0 (S.1 p0 0)) a 1 ((aw_uI S a 0 (S.1 p0 0)).1 p0 1)).1 p0 2)) a 3 ((aw_uI (aw_uI (aw_uI S a 0 (S.1 p0 0)) a 1 ((aw_uI S a 0 (S.1 p0 0)).1 p0 1)) a 2 ((aw_uI (aw_uI S a 0 (S.1 p0 0)) a 1 ((aw_uI S a 0 (S.1 p0 0)).1 p0 1)).1 p0 2)).1 p0 3)) a 4 ((aw_uI (aw_uI (aw_uI (aw_uI S a 0 (S.1 p0 0)) a 1 ((aw_uI S a 0 (S.1 p0 0)).1 p0 1)) a 2 ((aw_uI (aw_uI S a 0 (S.1 p0 0)) a 1 ((aw_uI S a 0 (S.1 p0 0)).1 p0 1)).1 p0 2)) a 3 ((aw_uI (aw_uI (aw_uI S a 0 (S.1 p0 0)) a 1 ((aw_uI S a 0 (S.1 p0 0)).1 p0 1)) a 2 ((aw_uI (aw_uI S a 0 (S.1 p0 0)) a 1 ((aw_uI S a 0 (S.1 p0 0)).1 p0 1)).1 p0 2)).1 p0 3)).1 p0 4)) r2 r3 0 0 7) r13 r14 0 0 7) r24 r25 0 0 7).2.2 a 8 = some r36 ∧ ∃ n38, sh[r35]? = some (3, n38) ∧ ∃ n40, sh[r36]? = some (3, n40) ∧ ¬ (0 : Int32) < 0 ∧ ¬ (0 : Int32) < 0 ∧ ¬ (7 : Int32) < 0 ∧ (0 : Int32).toNatClampNeg + (7 : Int32).toNatClampNeg ≤ n38 ∧ (0 : Int32).toNatClampNeg + (7 : Int32).toNatClampNeg ≤ n40 ∧ ∃ r46, (aw_cpi (aw_cpi (aw_cpi (aw_cpl (aw_uI (aw_uI (aw_uI (aw_uI (aw_uI S a 0 (S.1 p0 0)) a 1 ((aw_uI S a 0 (S.1 p0 0)).1 p0 1)) a 2 ((aw_uI (aw_uI S a 0 (S.1 p0 0)) a 1 ((aw_uI S a 0 (S.1 p0 0)).1 p0 1)).1 p0 2)) a 3 ((aw_uI (aw_uI (aw_uI S a 0 (S.1 p0 0)) a 1 ((aw_uI S a 0 (S.1 p0 0)).1 p0 1)) a 2 ((aw_uI (aw_uI S a 0 (S.1 p0 0)) a 1 ((aw_uI S a 0 (S.1 p0 0)).1 p0 1)).1 p0 2)).1 p0 3)) a 4 ((aw_uI (aw_uI (aw_uI (aw_uI S a 0 (S.1 p0 0)) a 1 ((aw_uI S a 0 (S.1 p0 0)).1 p0 1)) a 2 ((aw_uI (aw_uI S a 0 (S.1 p0 0)) a 1 ((aw_uI S a 0 (S.1 p0 0)).1 p0 1)).1 p0 2)) a 3 ((aw_uI (aw_uI (aw_uI S a 0 (S.1 p0 0)) a 1 ((aw_uI S a 0 (S.1 p0 0)).1 p0 1)) a 2 ((aw_uI (aw_uI S a 0 (S.1 p0 0)) a 1 ((aw_uI S a 0 (S.1 p0 0)).1 p0 1)).1 p0 2)).1 p0 3)).1 p0 4)) r2 r3 0 0 7) r13 r14 0 0 7) r24 r25 0 0 7) r35 r36 0 0 7).2.2 p0 9 = some r46 ∧ ∃ r47, (aw_cpi (aw_cpi (aw_cpi (aw_cpl (aw_uI (aw_uI (aw_uI (aw_uI (aw_uI S a 0 (S.1 p0 0)) a 1 ((aw_uI S a 0 (S.1 p0 0)).1 p0 1)) a 2 ((aw_uI (aw_uI S a 0 (S.1 p0 0)) a 1 ((aw_uI S a 0 (S.1 p0 0)).1 p0 1)).1 p0 2)) a 3 ((aw_uI (aw_uI (aw_uI S a 0 (S.1 p0 0)) a 1 ((aw_uI S a 0 (S.1 p0 0)).1 p0 1)) a 2 ((aw_uI (aw_uI S a 0 (S.1 p0 0)) a 1 ((aw_uI S a 0 (S.1 p0 0)).1 p0 1)).1 p0 2)).1 p0 3)) a 4 ((aw_uI (aw_uI (aw_uI (aw_uI S a 0 (S.1 p0 0)) a 1 ((aw_uI S a 0 (S.1 p0 0)).1 p0 1)) a 2 ((aw_uI (aw_uI S a 0 (S.1 p0 0)) a 1 ((aw_uI S a 0 (S.1 p0 0)).1 p0 1)).1 p0 2)) a 3 ((aw_uI (aw_uI (aw_uI S a 0 (S.1 p0 0)) a 1 ((aw_uI S a 0 (S.1 p0 0)).1 p0 1)) a 2 ((aw_uI (aw_uI S a 0 (S.1 p0 0)) a 1 ((aw_uI S a 0 (S.1 p0 0)).1 p0 1)).1 p0 2)).1 p0 3)).1 p0 4)) r2 r3 0 0 7) r13 r14 0 0 7) r24 r25 0 0 7) r35 r36 0 0 7).2.2 a 9 = some r47 ∧ ∃ n49, sh[r46]? = some (3, n49) ∧ ∃ n51, sh[r47]? = some (3, n51) ∧ ¬ (0 : Int32) < 0 ∧ ¬ (0 : Int32) < 0 ∧ ¬ (7 : Int32) < 0 ∧ (0 : Int32).toNatClampNeg + (7 : Int32).toNatClampNeg ≤ n49 ∧ (0 : Int32).toNatClampNeg + (7 : Int32).toNatClampNeg ≤ n51 ∧ ∃ r57, (aw_cpi (aw_cpi (aw_cpi (aw_cpi (aw_cpl (aw_uI (aw_uI (aw_uI (aw_uI (aw_uI S a 0 (S.1 p0 0)) a 1 ((aw_uI S a 0 (S.1 p0 0)).1 p0 1)) a 2 ((aw_uI (aw_uI S a 0 (S.1 p0 0)) a 1 ((aw_uI S a 0 (S.1 p0 0)).1 p0 1)).1 p0 2)) a 3 ((aw_uI (aw_uI (aw_uI S a 0 (S.1 p0 0)) a 1 ((aw_uI S a 0 (S.1 p0 0)).1 p0 1)) a 2 ((aw_uI (aw_uI S a 0 (S.1 p0 0)) a 1 ((aw_uI S a 0 (S.1 p0 0)).1 p0 1)).1 p0 2)).1 p0 3)) a 4 ((aw_uI (aw_uI (aw_uI (aw_uI S a 0 (S.1 p0 0)) a 1 ((aw_uI S a 0 (S.1 p0 0)).1 p0 1)) a 2 ((aw_uI (aw_uI S a 0 (S.1 p0 0)) a 1 ((aw_uI S a 0 (S.1 p0 0)).1 p0 1)).1 p0 2)) a 3 ((aw_uI (aw_uI (aw_uI S a 0 (S.1 p0 0)) a 1 ((aw_uI S a 0 (S.1 p0 0)).1 p0 1)) a 2 ((aw_uI (aw_uI S a 0 (S.1 p0 0)) a 1 ((aw_uI S a 0 (S.1 p0 0)).1 p0 1)).1 p0 2)).1 p0 3)).1 p0 4)) r2 r3 0 0 7) r13 r14 0 0 7) r24 r25 0 0 7) r35 r36 0 0 7) r46 r47 0 0 7).2.2 a 10 = some r57 ∧ ∃ r58, (aw_cpi (aw_cpi (aw_cpi (aw_cpi (aw_cpl (aw_uI (aw_uI (aw_uI (aw_uI (aw_uI S a 0 (S.1 p0 0)) a 1 ((aw_uI S a 0 (S.1 p0 0)).1 p0 1)) a 2 ((aw_uI (aw_uI S a 0 (S.1 p0 0)) a 1 ((aw_uI S a 0 (S.1 p0 0)).1 p0 1)).1 p0 2)) a 3 ((aw_uI (aw_uI (aw_uI S a 0 (S.1 p0 0)) a 1 ((aw_uI S a 0 (S.1 p0 0)).1 p0 1)) a 2 ((aw_uI (aw_uI S a 0 (S.1 p0 0)) a 1 ((aw_uI S a 0 (S.1 p0 0)).1 p0 1)).1 p0 2)).1 p0 3)) a 4 ((aw_uI (aw_uI (aw_uI (aw_uI S a 0 (S.1 p0 0)) a 1 ((aw_uI S a 0 (S.1 p0 0)).1 p0 1)) a 2 ((aw_uI (aw_uI S a 0 (S.1 p0 0)) a 1 ((aw_uI S a 0 (S.1 p0 0)).1 p0 1)).1 p0 2)) a 3 ((aw_uI (aw_uI (aw_uI S a 0 (S.1 p0 0)) a 1 ((aw_uI S a 0 (S.1 p0 0)).1 p0 1)) a 2 ((aw_uI (aw_uI S a 0 (S.1 p0 0)) a 1 ((aw_uI S a 0 (S.1 p0 0)).1 p0 1)).1 p0 2)).1 p0 3)).1 p0 4)) r2 r3 0 0 7) r13 r14 0 0 7) r24 r25 0 0 7) r35 r36 0 0 7) r46 r47 0 0 7).2.2 p0 10 = some r58 ∧ sh[r57]? = some (0, 3) ∧ Sp l m_Pl_copyFrom d 0 0 [.ref r57, .ref r58] sh (aw_cpi (aw_cpi (aw_cpi (aw_cpi (aw_cpl (aw_uI (aw_uI (aw_uI (aw_uI (aw_uI S a 0 (S.1 p0 0)) a 1 ((aw_uI S a 0 (S.1 p0 0)).1 p0 1)) a 2 ((aw_uI (aw_uI S a 0 (S.1 p0 0)) a 1 ((aw_uI S a 0 (S.1 p0 0)).1 p0 1)).1 p0 2)) a 3 ((aw_uI (aw_uI (aw_uI S a 0 (S.1 p0 0)) a 1 ((aw_uI S a 0 (S.1 p0 0)).1 p0 1)) a 2 ((aw_uI (aw_uI S a 0 (S.1 p0 0)) a 1 ((aw_uI S a 0 (S.1 p0 0)).1 p0 1)).1 p0 2)).1 p0 3)) a 4 ((aw_uI (aw_uI (aw_uI (aw_uI S a 0 (S.1 p0 0)) a 1 ((aw_uI S a 0 (S.1 p0 0)).1 p0 1)) a 2 ((aw_uI (aw_uI S a 0 (S.1 p0 0)) a 1 ((aw_uI S a 0 (S.1 p0 0)).1 p0 1)).1 p0 2)) a 3 ((aw_uI (aw_uI (aw_uI S a 0 (S.1 p0 0)) a 1 ((aw_uI S a 0 (S.1 p0 0)).1 p0 1)) a 2 ((aw_uI (aw_uI S a 0 (S.1 p0 0)) a 1 ((aw_uI S a 0 (S.1 p0 0)).1 p0 1)).1 p0 2)).1 p0 3)).1 p0 4)) r2 r3 0 0 7) r13 r14 0 0 7) r24 r25 0 0 7) r35 r36 0 0 7) r46 r47 0 0 7) (gV sh (fun S60 => P S60))) : Sp l m_Gr_copyFrom (d + 1) 0 0 [.ref a, .ref p0] sh S (gV sh P) := by
  refine Sp.of k_Gr_copyFrom (ls := [.ref a, .ref p0]) rfl (Nat.le_of_ble_eq_true rfl) ?_
  refine r_aload_n (pc := 0) d_Gr_copyFrom_0 (x := a) rfl ?_
  refine r_aload_n (pc := 1) d_Gr_copyFrom_1 (x := p0) rfl ?_
  obtain ⟨s1, h⟩ := h
  refine r_getI (pc := 2) d_Gr_copyFrom_2 f_Gr_54 s1 rfl ?_
  refine r_putI (pc := 5) d_Gr_copyFrom_5 f_Gr_54 sa rfl ?_
  refine r_aload_n (pc := 8) d_Gr_copyFrom_8 (x := a) rfl ?_
  refine r_aload_n (pc := 9) d_Gr_copyFrom_9 (x := p0) rfl ?_
  refine r_getI (pc := 10) d_Gr_copyFrom_10 f_Gr_47 s1 rfl ?_
  refine r_putI (pc := 13) d_Gr_copyFrom_13 f_Gr_47 sa rfl ?_
  refine r_aload_n (pc := 16) d_Gr_copyFrom_16 (x := a) rfl ?_
  refine r_aload_n (pc := 17) d_Gr_copyFrom_17 (x := p0) rfl ?_
  refine r_getI (pc := 18) d_Gr_copyFrom_18 f_Gr_51 s1 rfl ?_
  refine r_putI (pc := 21) d_Gr_copyFrom_21 f_Gr_51 sa rfl ?_
  refine r_aload_n (pc := 24) d_Gr_copyFrom_24 (x := a) rfl ?_
  refine r_aload_n (pc := 25) d_Gr_copyFrom_25 (x := p0) rfl ?_
  refine r_getI (pc := 26) d_Gr_copyFrom_26 f_Gr_66 s1 rfl ?_
  refine r_putI (pc := 29) d_Gr_copyFrom_29 f_Gr_66 sa rfl ?_
  refine r_aload_n (pc := 32) d_Gr_copyFrom_32 (x := a) rfl ?_
  refine r_aload_n (pc := 33) d_Gr_copyFrom_33 (x := p0) rfl ?_
  refine r_getI (pc := 34) d_Gr_copyFrom_34 f_Gr_69 s1 rfl ?_
  refine r_putI (pc := 37) d_Gr_copyFrom_37 f_Gr_69 sa rfl ?_
  refine r_aload_n (pc := 40) d_Gr_copyFrom_40 (x := p0) rfl ?_
  obtain ⟨r2, er2, h⟩ := h
  refine r_getR (pc := 41) d_Gr_copyFrom_41 f_Gr_9 s1 (Or.inr ⟨_, rfl⟩) (r := r2) er2 ?_
  refine r_iconst (pc := 44) d_Gr_copyFrom_44 (v := 0) (by decide) ?_
  refine r_aload_n (pc := 45) d_Gr_copyFrom_45 (x := a) rfl ?_
  obtain ⟨r3, er3, h⟩ := h
  refine r_getR (pc := 46) d_Gr_copyFrom_46 f_Gr_9 sa (Or.inr ⟨_, rfl⟩) (r := r3) er3 ?_
  refine r_iconst (pc := 49) d_Gr_copyFrom_49 (v := 0) (by decide) ?_
  refine r_bipush (pc := 50) d_Gr_copyFrom_50 (v := 7) (by decide) ?_
  obtain ⟨n5, s4, h⟩ := h
  obtain ⟨n7, s6, h⟩ := h
  obtain ⟨g8, g9, g10, g11, g12, h⟩ := h
  refine r_copyl (pc := 52) d_Gr_copyFrom_52 ck_Gr_72 s4 s6 g8 g9 g10 g11 g12 (Nat.le_of_ble_eq_true rfl) ?_
  refine r_aload_n (pc := 55) d_Gr_copyFrom_55 (x := p0) rfl ?_
  obtain ⟨r13, er13, h⟩ := h
  refine r_getR (pc := 56) d_Gr_copyFrom_56 f_Gr_15 s1 (Or.inr ⟨_, rfl⟩) (r := r13) er13 ?_
  refine r_iconst (pc := 59) d_Gr_copyFrom_59 (v := 0) (by decide) ?_
  refine r_aload_n (pc := 60) d_Gr_copyFrom_60 (x := a) rfl ?_
  obtain ⟨r14, er14, h⟩ := h
  refine r_getR (pc := 61) d_Gr_copyFrom_61 f_Gr_15 sa (Or.inr ⟨_, rfl⟩) (r := r14) er14 ?_
  refine r_iconst (pc := 64) d_Gr_copyFrom_64 (v := 0) (by decide) ?_
  refine r_bipush (pc := 65) d_Gr_copyFrom_65 (v := 7) (by decide) ?_
  obtain ⟨n16, s15, h⟩ := h
  obtain ⟨n18, s17, h⟩ := h
  obtain ⟨g19, g20, g21, g22, g23, h⟩ := h
  refine r_copyi (pc := 67) d_Gr_copyFrom_67 ck_Gr_72 s15 s17 g19 g20 g21 g22 g23 (Nat.le_of_ble_eq_true rfl) ?_
  refine r_aload_n (pc := 70) d_Gr_copyFrom_70 (x := p0) rfl ?_
  obtain ⟨r24, er24, h⟩ := h
  refine r_getR (pc := 71) d_Gr_copyFrom_71 f_Gr_19 s1 (Or.inr ⟨_, rfl⟩) (r := r24) er24 ?_
  refine r_iconst (pc := 74) d_Gr_copyFrom_74 (v := 0) (by decide) ?_
  refine r_aload_n (pc := 75) d_Gr_copyFrom_75 (x := a) rfl ?_
  obtain ⟨r25, er25, h⟩ := h
  refine r_getR (pc := 76) d_Gr_copyFrom_76 f_Gr_19 sa (Or.inr ⟨_, rfl⟩) (r := r25) er25 ?_
  refine r_iconst (pc := 79) d_Gr_copyFrom_79 (v := 0) (by decide) ?_
  refine r_bipush (pc := 80) d_Gr_copyFrom_80 (v := 7) (by decide) ?_
  obtain ⟨n27, s26, h⟩ := h
  obtain ⟨n29, s28, h⟩ := h
  obtain ⟨g30, g31, g32, g33, g34, h⟩ := h
  refine r_copyi (pc := 82) d_Gr_copyFrom_82 ck_Gr_72 s26 s28 g30 g31 g32 g33 g34 (Nat.le_of_ble_eq_true rfl) ?_
  refine r_aload_n (pc := 85) d_Gr_copyFrom_85 (x := p0) rfl ?_
  obtain ⟨r35, er35, h⟩ := h
  refine r_getR (pc := 86) d_Gr_copyFrom_86 f_Gr_22 s1 (Or.inr ⟨_, rfl⟩) (r := r35) er35 ?_
  refine r_iconst (pc := 89) d_Gr_copyFrom_89 (v := 0) (by decide) ?_
  refine r_aload_n (pc := 90) d_Gr_copyFrom_90 (x := a) rfl ?_
  obtain ⟨r36, er36, h⟩ := h
  refine r_getR (pc := 91) d_Gr_copyFrom_91 f_Gr_22 sa (Or.inr ⟨_, rfl⟩) (r := r36) er36 ?_
  refine r_iconst (pc := 94) d_Gr_copyFrom_94 (v := 0) (by decide) ?_
  refine r_bipush (pc := 95) d_Gr_copyFrom_95 (v := 7) (by decide) ?_
  obtain ⟨n38, s37, h⟩ := h
  obtain ⟨n40, s39, h⟩ := h
  obtain ⟨g41, g42, g43, g44, g45, h⟩ := h
  refine r_copyi (pc := 97) d_Gr_copyFrom_97 ck_Gr_72 s37 s39 g41 g42 g43 g44 g45 (Nat.le_of_ble_eq_true rfl) ?_
  refine r_aload_n (pc := 100) d_Gr_copyFrom_100 (x := p0) rfl ?_
  obtain ⟨r46, er46, h⟩ := h
  refine r_getR (pc := 101) d_Gr_copyFrom_101 f_Gr_25 s1 (Or.inr ⟨_, rfl⟩) (r := r46) er46 ?_
  refine r_iconst (pc := 104) d_Gr_copyFrom_104 (v := 0) (by decide) ?_
  refine r_aload_n (pc := 105) d_Gr_copyFrom_105 (x := a) rfl ?_
  obtain ⟨r47, er47, h⟩ := h
  refine r_getR (pc := 106) d_Gr_copyFrom_106 f_Gr_25 sa (Or.inr ⟨_, rfl⟩) (r := r47) er47 ?_
  refine r_iconst (pc := 109) d_Gr_copyFrom_109 (v := 0) (by decide) ?_
  refine r_bipush (pc := 110) d_Gr_copyFrom_110 (v := 7) (by decide) ?_
  obtain ⟨n49, s48, h⟩ := h
  obtain ⟨n51, s50, h⟩ := h
  obtain ⟨g52, g53, g54, g55, g56, h⟩ := h
  refine r_copyi (pc := 112) d_Gr_copyFrom_112 ck_Gr_72 s48 s50 g52 g53 g54 g55 g56 (Nat.le_of_ble_eq_true rfl) ?_
  refine r_aload_n (pc := 115) d_Gr_copyFrom_115 (x := a) rfl ?_
  obtain ⟨r57, er57, h⟩ := h
  refine r_getR (pc := 116) d_Gr_copyFrom_116 f_Gr_33 sa (Or.inl ⟨_, rfl⟩) (r := r57) er57 ?_
  refine r_aload_n (pc := 119) d_Gr_copyFrom_119 (x := p0) rfl ?_
  obtain ⟨r58, er58, h⟩ := h
  refine r_getR (pc := 120) d_Gr_copyFrom_120 f_Gr_33 s1 (Or.inl ⟨_, rfl⟩) (r := r58) er58 ?_
  obtain ⟨s59, h⟩ := h
  refine r_callV (pc := 123) (k := r57) (As := [.ref r58]) (rest := []) (mc' := 0) (ms' := 0) lk_Gr_78 in_Pl_copyFrom se_Pl_copyFrom s59 rfl d_Gr_copyFrom_123 k_Pl_copyFrom rfl rfl (Nat.le_of_ble_eq_true rfl) (by decide) (by decide) (Sp.mono h ?_)
  rintro rS60 shS60 S60 ⟨qS60, uS60, h⟩
  subst uS60
  rw [qS60]
  exact r_return (pc := 126) d_Gr_copyFrom_126 rfl rfl (Nat.le_refl _) ⟨rfl, rfl, h⟩
set_option maxRecDepth 4000 in
theorem e_Gr_fillColours {l : Launch} {d : Nat} {sh : aw_SH} {S : aw_S} {P : aw_S → Prop} {a : Nat} {p0 : Nat} (sa : sh[a]? = some (0, 2)) (h : Sp l m_Ar_fill_AIIV d 0 0 [.ref p0, .int 6] sh S (gV sh (fun S1 => AW l m_Gr_fillColours (d + 1) 0 0 (gV sh P) 0 0 8 [.ref a, .ref p0, .int 0] [] sh S1))) : Sp l m_Gr_fillColours (d + 1) 0 0 [.ref a, .ref p0] sh S (gV sh P) := by
  refine Sp.of k_Gr_fillColours (ls := [.ref a, .ref p0, .null]) rfl (Nat.le_of_ble_eq_true rfl) ?_
  refine r_aload_n (pc := 0) d_Gr_fillColours_0 (x := p0) rfl ?_
  refine r_bipush (pc := 1) d_Gr_fillColours_1 (v := 6) (by decide) ?_
  refine r_callS (pc := 3) (k := 0) (As := [.ref p0, .int 6]) (rest := []) (mc' := 0) (ms' := 0) lk_Gr_148 st_Ar_fill_AIIV d_Gr_fillColours_3 k_Ar_fill_AIIV rfl rfl (Nat.le_of_ble_eq_true rfl) (by decide) (by decide) (Sp.mono h ?_)
  rintro rS1 shS1 S1 ⟨qS1, uS1, h⟩
  subst uS1
  rw [qS1]
  refine r_iconst (pc := 6) d_Gr_fillColours_6 (v := 0) (by decide) ?_
  refine r_istore_n (pc := 7) (hk := rfl) (hd := d_Gr_fillColours_7) (hi := by decide) (ls2 := [.ref a, .ref p0, .int 0]) (h2 := rfl) ?_
  exact h
set_option maxRecDepth 4000 in
theorem s_Gr_fillColours_8 {l : Launch} {d : Nat} {sh : aw_SH} {S : aw_S} {P : aw_S → Prop} {a : Nat} {i1 : Nat} {i2 : Int32} (sa : sh[a]? = some (0, 2)) (h : ∃ r1, S.2.2 a 10 = some r1 ∧ sh[r1]? = some (0, 3) ∧ (((S.1 r1 1) ≤ i2 → P S) ∧ (¬ (S.1 r1 1) ≤ i2 → Sp l m_Pl_gapAt d 0 0 [.ref r1, .int i2] sh S (gI sh (fun x5 S4 => ∃ r6, S4.2.2 a 6 = some r6 ∧ ∃ r7, S4.2.2 a 10 = some r7 ∧ sh[r7]? = some (0, 3) ∧ Sp l m_Pl_upperAt d 0 0 [.ref r7, .int i2] sh S4 (gI sh (fun x10 S9 => ∃ n12, sh[r6]? = some (3, n12) ∧ vp_in x10 n12 ∧ ∃ n15, sh[i1]? = some (3, n15) ∧ vp_in x5 n15 ∧ AW l m_Gr_fillColours (d + 1) 0 0 (gV sh P) 0 0 8 [.ref a, .ref i1, .int (i2 + 1)] [] sh (aw_uI S9 i1 x5.toNatClampNeg (S9.1 r6 x10.toNatClampNeg))))))))) : AW l m_Gr_fillColours (d + 1) 0 0 (gV sh P) 0 0 8 [.ref a, .ref i1, .int i2] [] sh S := by
  refine r_iload_n (pc := 8) d_Gr_fillColours_8 (x := i2) rfl ?_
  refine r_aload_n (pc := 9) d_Gr_fillColours_9 (x := a) rfl ?_
  obtain ⟨r1, er1, h⟩ := h
  refine r_getR (pc := 10) d_Gr_fillColours_10 f_Gr_33 sa (Or.inl ⟨_, rfl⟩) (r := r1) er1 ?_
  obtain ⟨s2, h⟩ := h
  refine r_getI (pc := 13) d_Gr_fillColours_13 f_Gr_57 s2 rfl ?_
  refine r_icmp_ge (pc := 16) d_Gr_fillColours_16 (tgt := 48) (by decide) (fun c3 => ?_) (fun c3 => ?_)
  · replace h := h.1 c3
    exact r_return (pc := 48) d_Gr_fillColours_48 rfl rfl (Nat.le_refl _) ⟨rfl, rfl, h⟩
  · replace h := h.2 c3
    refine r_aload_n (pc := 19) d_Gr_fillColours_19 (x := i1) rfl ?_
    refine r_aload_n (pc := 20) d_Gr_fillColours_20 (x := a) rfl ?_
    refine r_getR (pc := 21) d_Gr_fillColours_21 f_Gr_33 sa (Or.inl ⟨_, rfl⟩) (r := r1) er1 ?_
    refine r_iload_n (pc := 24) d_Gr_fillColours_24 (x := i2) rfl ?_
    refine r_callV (pc := 25) (k := r1) (As := [.int i2]) (rest := [.ref i1]) (mc' := 0) (ms' := 0) lk_Gr_133 in_Pl_gapAt se_Pl_gapAt s2 rfl d_Gr_fillColours_25 k_Pl_gapAt rfl rfl (Nat.le_of_ble_eq_true rfl) (by decide) (by decide) (Sp.mono h ?_)
    rintro rS4 shS4 S4 ⟨qS4, x5, uS4, h⟩
    subst uS4
    rw [qS4]
    refine r_aload_n (pc := 28) d_Gr_fillColours_28 (x := a) rfl ?_
    obtain ⟨r6, er6, h⟩ := h
    refine r_getR (pc := 29) d_Gr_fillColours_29 f_Gr_15 sa (Or.inr ⟨_, rfl⟩) (r := r6) er6 ?_
    refine r_aload_n (pc := 32) d_Gr_fillColours_32 (x := a) rfl ?_
    obtain ⟨r7, er7, h⟩ := h
    refine r_getR (pc := 33) d_Gr_fillColours_33 f_Gr_33 sa (Or.inl ⟨_, rfl⟩) (r := r7) er7 ?_
    refine r_iload_n (pc := 36) d_Gr_fillColours_36 (x := i2) rfl ?_
    obtain ⟨s8, h⟩ := h
    refine r_callV (pc := 37) (k := r7) (As := [.int i2]) (rest := [.ref r6, .int x5, .ref i1]) (mc' := 0) (ms' := 0) lk_Gr_127 in_Pl_upperAt se_Pl_upperAt s8 rfl d_Gr_fillColours_37 k_Pl_upperAt rfl rfl (Nat.le_of_ble_eq_true rfl) (by decide) (by decide) (Sp.mono h ?_)
    rintro rS9 shS9 S9 ⟨qS9, x10, uS9, h⟩
    subst uS9
    rw [qS9]
    obtain ⟨n12, s11, h⟩ := h
    obtain ⟨g13, h⟩ := h
    refine r_iald (pc := 40) d_Gr_fillColours_40 s11 g13 ?_
    obtain ⟨n15, s14, h⟩ := h
    obtain ⟨g16, h⟩ := h
    refine r_iast (pc := 41) d_Gr_fillColours_41 s14 g16 ?_
    refine r_iinc (pc := 42) d_Gr_fillColours_42 (hi := by decide) (x := i2) rfl (v := i2 + 1) rfl (ls2 := [.ref a, .ref i1, .int (i2 + 1)]) rfl ?_
    refine r_goto (pc := 45) d_Gr_fillColours_45 (tgt := 8) (by decide) ?_
    exact h
set_option maxRecDepth 4000 in
theorem e_Gr_colourBehind {l : Launch} {d : Nat} {sh : aw_SH} {S : aw_S} {P : Int32 → aw_S → Prop} {a : Nat} {p0 : Int32} {p1 : Int32} (sa : sh[a]? = some (0, 2)) (h : ∃ r1, S.2.2 a 10 = some r1 ∧ Sp l m_Gr_touching d 0 0 [.ref a, .int p0] sh S (gI sh (fun x3 S2 => sh[r1]? = some (0, 3) ∧ Sp l m_Pl_undoneBy d 0 0 [.ref r1, .int p0, .int p1, .int x3] sh S2 (gI sh (fun x6 S5 => ((x6 = (-1) → Sp l m_Gr_canAdd d 0 0 [.ref a, .int p0] sh S5 (gI sh (fun x9 S8 => ((¬ x9 = 0 → ∃ r11, S8.2.2 a 6 = some r11 ∧ ((¬ p1 = 1 → ∃ r13, S8.2.2 a 9 = some r13 ∧ Sp l m_Gr_nextPlace d 0 0 [.ref a, .int p0] sh S8 (gI sh (fun x15 S14 => ∃ n17, sh[r13]? = some (3, n17) ∧ vp_in x15 n17 ∧ ∃ n20, sh[r11]? = some (3, n20) ∧ vp_in (S14.1 r13 x15.toNatClampNeg) n20 ∧ P (S14.1 r11 (S14.1 r13 x15.toNatClampNeg : Int32).toNatClampNeg) S14))) ∧ (p1 = 1 → ∃ r22, S8.2.2 a 9 = some r22 ∧ ∃ n24, sh[r22]? = some (3, n24) ∧ vp_in p0 n24 ∧ ∃ n27, sh[r11]? = some (3, n27) ∧ vp_in (S8.1 r22 p0.toNatClampNeg) n27 ∧ P (S8.1 r11 (S8.1 r22 p0.toNatClampNeg : Int32).toNatClampNeg) S8))) ∧ (x9 = 0 → P (-1) S8))))) ∧ (¬ x6 = (-1) → Sp l m_Gr_colourIn d 0 0 [.ref a, .int p0, .int x6] sh S5 (gI sh (fun x30 S29 => P x30 S29))))))))) : Sp l m_Gr_colourBehind (d + 1) 0 0 [.ref a, .int p0, .int p1] sh S (gI sh P) := by
  refine Sp.of k_Gr_colourBehind (ls := [.ref a, .int p0, .int p1, .null]) rfl (Nat.le_of_ble_eq_true rfl) ?_
  refine r_aload_n (pc := 0) d_Gr_colourBehind_0 (x := a) rfl ?_
  obtain ⟨r1, er1, h⟩ := h
  refine r_getR (pc := 1) d_Gr_colourBehind_1 f_Gr_33 sa (Or.inl ⟨_, rfl⟩) (r := r1) er1 ?_
  refine r_iload_n (pc := 4) d_Gr_colourBehind_4 (x := p0) rfl ?_
  refine r_iload_n (pc := 5) d_Gr_colourBehind_5 (x := p1) rfl ?_
  refine r_aload_n (pc := 6) d_Gr_colourBehind_6 (x := a) rfl ?_
  refine r_iload_n (pc := 7) d_Gr_colourBehind_7 (x := p0) rfl ?_
  refine r_callV (pc := 8) (k := a) (As := [.int p0]) (rest := [.int p1, .int p0, .ref r1]) (mc' := 0) (ms' := 0) lk_Gr_92 in_Gr_touching se_Gr_touching sa rfl d_Gr_colourBehind_8 k_Gr_touching rfl rfl (Nat.le_of_ble_eq_true rfl) (by decide) (by decide) (Sp.mono h ?_)
  rintro rS2 shS2 S2 ⟨qS2, x3, uS2, h⟩
  subst uS2
  rw [qS2]
  obtain ⟨s4, h⟩ := h
  refine r_callV (pc := 11) (k := r1) (As := [.int p0, .int p1, .int x3]) (rest := []) (mc' := 0) (ms' := 0) lk_Gr_95 in_Pl_undoneBy se_Pl_undoneBy s4 rfl d_Gr_colourBehind_11 k_Pl_undoneBy rfl rfl (Nat.le_of_ble_eq_true rfl) (by decide) (by decide) (Sp.mono h ?_)
  rintro rS5 shS5 S5 ⟨qS5, x6, uS5, h⟩
  subst uS5
  rw [qS5]
  refine r_istore_n (pc := 14) (hk := rfl) (hd := d_Gr_colourBehind_14) (hi := by decide) (ls2 := [.ref a, .int p0, .int p1, .int x6]) (h2 := rfl) ?_
  refine r_iload_n (pc := 15) d_Gr_colourBehind_15 (x := x6) rfl ?_
  refine r_iconst (pc := 16) d_Gr_colourBehind_16 (v := (-1)) (by decide) ?_
  refine r_icmp_eq (pc := 17) d_Gr_colourBehind_17 (tgt := 27) (by decide) (fun c7 => ?_) (fun c7 => ?_)
  · replace h := h.1 c7
    refine r_aload_n (pc := 27) d_Gr_colourBehind_27 (x := a) rfl ?_
    refine r_iload_n (pc := 28) d_Gr_colourBehind_28 (x := p0) rfl ?_
    refine r_callV (pc := 29) (k := a) (As := [.int p0]) (rest := []) (mc' := 0) (ms' := 0) lk_Gr_105 in_Gr_canAdd se_Gr_canAdd sa rfl d_Gr_colourBehind_29 k_Gr_canAdd rfl rfl (Nat.le_of_ble_eq_true rfl) (by decide) (by decide) (Sp.mono h ?_)
    rintro rS8 shS8 S8 ⟨qS8, x9, uS8, h⟩
    subst uS8
    rw [qS8]
    refine r_if_ne (pc := 32) d_Gr_colourBehind_32 (tgt := 37) (by decide) (fun c10 => ?_) (fun c10 => ?_)
    · replace h := h.1 c10
      refine r_aload_n (pc := 37) d_Gr_colourBehind_37 (x := a) rfl ?_
      obtain ⟨r11, er11, h⟩ := h
      refine r_getR (pc := 38) d_Gr_colourBehind_38 f_Gr_15 sa (Or.inr ⟨_, rfl⟩) (r := r11) er11 ?_
      refine r_iload_n (pc := 41) d_Gr_colourBehind_41 (x := p1) rfl ?_
      refine r_iconst (pc := 42) d_Gr_colourBehind_42 (v := 1) (by decide) ?_
      refine r_icmp_ne (pc := 43) d_Gr_colourBehind_43 (tgt := 55) (by decide) (fun c12 => ?_) (fun c12 => ?_)
      · replace h := h.1 c12
        refine r_aload_n (pc := 55) d_Gr_colourBehind_55 (x := a) rfl ?_
        obtain ⟨r13, er13, h⟩ := h
        refine r_getR (pc := 56) d_Gr_colourBehind_56 f_Gr_25 sa (Or.inr ⟨_, rfl⟩) (r := r13) er13 ?_
        refine r_aload_n (pc := 59) d_Gr_colourBehind_59 (x := a) rfl ?_
        refine r_iload_n (pc := 60) d_Gr_colourBehind_60 (x := p0) rfl ?_
        refine r_callV (pc := 61) (k := a) (As := [.int p0]) (rest := [.ref r13, .ref r11]) (mc' := 0) (ms' := 0) lk_Gr_82 in_Gr_nextPlace se_Gr_nextPlace sa rfl d_Gr_colourBehind_61 k_Gr_nextPlace rfl rfl (Nat.le_of_ble_eq_true rfl) (by decide) (by decide) (Sp.mono h ?_)
        rintro rS14 shS14 S14 ⟨qS14, x15, uS14, h⟩
        subst uS14
        rw [qS14]
        obtain ⟨n17, s16, h⟩ := h
        obtain ⟨g18, h⟩ := h
        refine r_iald (pc := 64) d_Gr_colourBehind_64 s16 g18 ?_
        obtain ⟨n20, s19, h⟩ := h
        obtain ⟨g21, h⟩ := h
        refine r_iald (pc := 65) d_Gr_colourBehind_65 s19 g21 ?_
        exact r_ireturn (pc := 66) d_Gr_colourBehind_66 rfl rfl (Nat.le_refl _) ⟨rfl, _, rfl, h⟩
      · replace h := h.2 c12
        refine r_aload_n (pc := 46) d_Gr_colourBehind_46 (x := a) rfl ?_
        obtain ⟨r22, er22, h⟩ := h
        refine r_getR (pc := 47) d_Gr_colourBehind_47 f_Gr_25 sa (Or.inr ⟨_, rfl⟩) (r := r22) er22 ?_
        refine r_iload_n (pc := 50) d_Gr_colourBehind_50 (x := p0) rfl ?_
        obtain ⟨n24, s23, h⟩ := h
        obtain ⟨g25, h⟩ := h
        refine r_iald (pc := 51) d_Gr_colourBehind_51 s23 g25 ?_
        refine r_goto (pc := 52) d_Gr_colourBehind_52 (tgt := 65) (by decide) ?_
        obtain ⟨n27, s26, h⟩ := h
        obtain ⟨g28, h⟩ := h
        refine r_iald (pc := 65) d_Gr_colourBehind_65 s26 g28 ?_
        exact r_ireturn (pc := 66) d_Gr_colourBehind_66 rfl rfl (Nat.le_refl _) ⟨rfl, _, rfl, h⟩
    · replace h := h.2 c10
      refine r_iconst (pc := 35) d_Gr_colourBehind_35 (v := (-1)) (by decide) ?_
      exact r_ireturn (pc := 36) d_Gr_colourBehind_36 rfl rfl (Nat.le_refl _) ⟨rfl, _, rfl, h⟩
  · replace h := h.2 c7
    refine r_aload_n (pc := 20) d_Gr_colourBehind_20 (x := a) rfl ?_
    refine r_iload_n (pc := 21) d_Gr_colourBehind_21 (x := p0) rfl ?_
    refine r_iload_n (pc := 22) d_Gr_colourBehind_22 (x := x6) rfl ?_
    refine r_callV (pc := 23) (k := a) (As := [.int p0, .int x6]) (rest := []) (mc' := 0) (ms' := 0) lk_Gr_142 in_Gr_colourIn se_Gr_colourIn sa rfl d_Gr_colourBehind_23 k_Gr_colourIn rfl rfl (Nat.le_of_ble_eq_true rfl) (by decide) (by decide) (Sp.mono h ?_)
    rintro rS29 shS29 S29 ⟨qS29, x30, uS29, h⟩
    subst uS29
    rw [qS29]
    exact r_ireturn (pc := 26) d_Gr_colourBehind_26 rfl rfl (Nat.le_refl _) ⟨rfl, _, rfl, h⟩
set_option maxRecDepth 4000 in
theorem e_Gr_takeBack {l : Launch} {d : Nat} {sh : aw_SH} {S : aw_S} {P : aw_S → Prop} {a : Nat} {p0 : Int32} (sa : sh[a]? = some (0, 2)) (h : ((¬ p0 = 0 → ((p0 ≤ 0 → P S) ∧ (¬ p0 ≤ 0 → Sp l m_Gr_insertPass d 0 0 [.ref a, .int ((p0 - (1 : Int32)) >>> ((10 : Int32) &&& 31)), .int ((p0 - (1 : Int32)) &&& (1023 : Int32))] sh S (gV sh (fun S3 => P S3))))) ∧ (p0 = 0 → ∃ r4, S.2.2 a 10 = some r4 ∧ sh[r4]? = some (0, 3) ∧ Sp l m_Gr_removePass d 0 0 [.ref a, .int ((S.1 r4 1) - (1 : Int32))] sh S (gV sh (fun S6 => P S6))))) : Sp l m_Gr_takeBack (d + 1) 0 0 [.ref a, .int p0] sh S (gV sh P) := by
  refine Sp.of k_Gr_takeBack (ls := [.ref a, .int p0]) rfl (Nat.le_of_ble_eq_true rfl) ?_
  refine r_iload_n (pc := 0) d_Gr_takeBack_0 (x := p0) rfl ?_
  refine r_if_ne (pc := 1) d_Gr_takeBack_1 (tgt := 20) (by decide) (fun c1 => ?_) (fun c1 => ?_)
  · replace h := h.1 c1
    refine r_iload_n (pc := 20) d_Gr_takeBack_20 (x := p0) rfl ?_
    refine r_if_le (pc := 21) d_Gr_takeBack_21 (tgt := 41) (by decide) (fun c2 => ?_) (fun c2 => ?_)
    · replace h := h.1 c2
      exact r_return (pc := 41) d_Gr_takeBack_41 rfl rfl (Nat.le_refl _) ⟨rfl, rfl, h⟩
    · replace h := h.2 c2
      refine r_aload_n (pc := 24) d_Gr_takeBack_24 (x := a) rfl ?_
      refine r_iload_n (pc := 25) d_Gr_takeBack_25 (x := p0) rfl ?_
      refine r_iconst (pc := 26) d_Gr_takeBack_26 (v := 1) (by decide) ?_
      refine r_isub (pc := 27) d_Gr_takeBack_27 ?_
      refine r_bipush (pc := 28) d_Gr_takeBack_28 (v := 10) (by decide) ?_
      refine r_ishr (pc := 30) d_Gr_takeBack_30 ?_
      refine r_iload_n (pc := 31) d_Gr_takeBack_31 (x := p0) rfl ?_
      refine r_iconst (pc := 32) d_Gr_takeBack_32 (v := 1) (by decide) ?_
      refine r_isub (pc := 33) d_Gr_takeBack_33 ?_
      refine r_sipush (pc := 34) d_Gr_takeBack_34 (v := 1023) (by decide) ?_
      refine r_iand (pc := 37) d_Gr_takeBack_37 ?_
      refine r_callV (pc := 38) (k := a) (As := [.int ((p0 - (1 : Int32)) >>> ((10 : Int32) &&& 31)), .int ((p0 - (1 : Int32)) &&& (1023 : Int32))]) (rest := []) (mc' := 0) (ms' := 0) lk_Gr_113 in_Gr_insertPass se_Gr_insertPass sa rfl d_Gr_takeBack_38 k_Gr_insertPass rfl rfl (Nat.le_of_ble_eq_true rfl) (by decide) (by decide) (Sp.mono h ?_)
      rintro rS3 shS3 S3 ⟨qS3, uS3, h⟩
      subst uS3
      rw [qS3]
      exact r_return (pc := 41) d_Gr_takeBack_41 rfl rfl (Nat.le_refl _) ⟨rfl, rfl, h⟩
  · replace h := h.2 c1
    refine r_aload_n (pc := 4) d_Gr_takeBack_4 (x := a) rfl ?_
    refine r_aload_n (pc := 5) d_Gr_takeBack_5 (x := a) rfl ?_
    obtain ⟨r4, er4, h⟩ := h
    refine r_getR (pc := 6) d_Gr_takeBack_6 f_Gr_33 sa (Or.inl ⟨_, rfl⟩) (r := r4) er4 ?_
    obtain ⟨s5, h⟩ := h
    refine r_getI (pc := 9) d_Gr_takeBack_9 f_Gr_57 s5 rfl ?_
    refine r_iconst (pc := 12) d_Gr_takeBack_12 (v := 1) (by decide) ?_
    refine r_isub (pc := 13) d_Gr_takeBack_13 ?_
    refine r_callV (pc := 14) (k := a) (As := [.int ((S.1 r4 1) - (1 : Int32))]) (rest := []) (mc' := 0) (ms' := 0) lk_Gr_102 in_Gr_removePass se_Gr_removePass sa rfl d_Gr_takeBack_14 k_Gr_removePass rfl rfl (Nat.le_of_ble_eq_true rfl) (by decide) (by decide) (Sp.mono h ?_)
    rintro rS6 shS6 S6 ⟨qS6, uS6, h⟩
    subst uS6
    rw [qS6]
    refine r_goto (pc := 17) d_Gr_takeBack_17 (tgt := 41) (by decide) ?_
    exact r_return (pc := 41) d_Gr_takeBack_41 rfl rfl (Nat.le_refl _) ⟨rfl, rfl, h⟩
set_option maxRecDepth 4000 in
theorem e_Gr_placeBehind {l : Launch} {d : Nat} {sh : aw_SH} {S : aw_S} {P : Int32 → aw_S → Prop} {a : Nat} {p0 : Int32} {p1 : Int32} (sa : sh[a]? = some (0, 2)) (h : ((¬ p0 = p1 → Sp l m_Gr_nextPlace d 0 0 [.ref a, .int p1] sh S (gI sh (fun x3 S2 => ((¬ p0 = x3 → P p0 S2) ∧ (p0 = x3 → P p1 S2))))) ∧ (p0 = p1 → Sp l m_Gr_nextPlace d 0 0 [.ref a, .int p0] sh S (gI sh (fun x6 S5 => P x6 S5))))) : Sp l m_Gr_placeBehind (d + 1) 0 0 [.ref a, .int p0, .int p1] sh S (gI sh P) := by
  refine Sp.of k_Gr_placeBehind (ls := [.ref a, .int p0, .int p1]) rfl (Nat.le_of_ble_eq_true rfl) ?_
  refine r_iload_n (pc := 0) d_Gr_placeBehind_0 (x := p0) rfl ?_
  refine r_iload_n (pc := 1) d_Gr_placeBehind_1 (x := p1) rfl ?_
  refine r_icmp_ne (pc := 2) d_Gr_placeBehind_2 (tgt := 11) (by decide) (fun c1 => ?_) (fun c1 => ?_)
  · replace h := h.1 c1
    refine r_iload_n (pc := 11) d_Gr_placeBehind_11 (x := p0) rfl ?_
    refine r_aload_n (pc := 12) d_Gr_placeBehind_12 (x := a) rfl ?_
    refine r_iload_n (pc := 13) d_Gr_placeBehind_13 (x := p1) rfl ?_
    refine r_callV (pc := 14) (k := a) (As := [.int p1]) (rest := [.int p0]) (mc' := 0) (ms' := 0) lk_Gr_82 in_Gr_nextPlace se_Gr_nextPlace sa rfl d_Gr_placeBehind_14 k_Gr_nextPlace rfl rfl (Nat.le_of_ble_eq_true rfl) (by decide) (by decide) (Sp.mono h ?_)
    rintro rS2 shS2 S2 ⟨qS2, x3, uS2, h⟩
    subst uS2
    rw [qS2]
    refine r_icmp_ne (pc := 17) d_Gr_placeBehind_17 (tgt := 24) (by decide) (fun c4 => ?_) (fun c4 => ?_)
    · replace h := h.1 c4
      refine r_iload_n (pc := 24) d_Gr_placeBehind_24 (x := p0) rfl ?_
      exact r_ireturn (pc := 25) d_Gr_placeBehind_25 rfl rfl (Nat.le_refl _) ⟨rfl, _, rfl, h⟩
    · replace h := h.2 c4
      refine r_iload_n (pc := 20) d_Gr_placeBehind_20 (x := p1) rfl ?_
      refine r_goto (pc := 21) d_Gr_placeBehind_21 (tgt := 25) (by decide) ?_
      exact r_ireturn (pc := 25) d_Gr_placeBehind_25 rfl rfl (Nat.le_refl _) ⟨rfl, _, rfl, h⟩
  · replace h := h.2 c1
    refine r_aload_n (pc := 5) d_Gr_placeBehind_5 (x := a) rfl ?_
    refine r_iload_n (pc := 6) d_Gr_placeBehind_6 (x := p0) rfl ?_
    refine r_callV (pc := 7) (k := a) (As := [.int p0]) (rest := []) (mc' := 0) (ms' := 0) lk_Gr_82 in_Gr_nextPlace se_Gr_nextPlace sa rfl d_Gr_placeBehind_7 k_Gr_nextPlace rfl rfl (Nat.le_of_ble_eq_true rfl) (by decide) (by decide) (Sp.mono h ?_)
    rintro rS5 shS5 S5 ⟨qS5, x6, uS5, h⟩
    subst uS5
    rw [qS5]
    exact r_ireturn (pc := 10) d_Gr_placeBehind_10 rfl rfl (Nat.le_refl _) ⟨rfl, _, rfl, h⟩
