set_option maxRecDepth 4000 in
theorem e_Tr_become {l : Launch} {d : Nat} {sh : aw_SH} {S : aw_S} {P : aw_S → Prop} {a : Nat} {p0 : Int32} {p1 : Int32} (sa : sh[a]? = some (0, 1)) (h : ∃ r1, (aw_uI (aw_uI (aw_uI S a 1 1) a 2 p0) a 3 p1).2.2 a 0 = some r1 ∧ Sp l m_Ar_fill_AJJV d 0 0 [.ref r1, .long 0] sh (aw_uI (aw_uI (aw_uI S a 1 1) a 2 p0) a 3 p1) (gV sh (fun S2 => P S2))) : Sp l m_Tr_become (d + 1) 0 0 [.ref a, .int p0, .int p1] sh S (gV sh P) := by
  refine Sp.of k_Tr_become (ls := [.ref a, .int p0, .int p1]) rfl (Nat.le_of_ble_eq_true rfl) ?_
  refine r_aload_n (pc := 0) d_Tr_become_0 (x := a) rfl ?_
  refine r_iconst (pc := 1) d_Tr_become_1 (v := 1) (by decide) ?_
  refine r_putZ (pc := 2) d_Tr_become_2 f_Tr_15 sa rfl (by decide) ?_
  refine r_aload_n (pc := 5) d_Tr_become_5 (x := a) rfl ?_
  refine r_iload_n (pc := 6) d_Tr_become_6 (x := p0) rfl ?_
  refine r_putI (pc := 7) d_Tr_become_7 f_Tr_19 sa rfl ?_
  refine r_aload_n (pc := 10) d_Tr_become_10 (x := a) rfl ?_
  refine r_iload_n (pc := 11) d_Tr_become_11 (x := p1) rfl ?_
  refine r_putI (pc := 12) d_Tr_become_12 f_Tr_23 sa rfl ?_
  refine r_aload_n (pc := 15) d_Tr_become_15 (x := a) rfl ?_
  obtain ⟨r1, er1, h⟩ := h
  refine r_getR (pc := 16) d_Tr_become_16 f_Tr_9 sa (Or.inr ⟨_, rfl⟩) (r := r1) er1 ?_
  refine r_lconst (pc := 19) d_Tr_become_19 (v := 0) (by decide) ?_
  refine r_callS (pc := 20) (k := 0) (As := [.ref r1, .long 0]) (rest := []) (mc' := 0) (ms' := 0) lk_Tr_26 st_Ar_fill_AJJV d_Tr_become_20 k_Ar_fill_AJJV rfl rfl (Nat.le_of_ble_eq_true rfl) (by decide) (by decide) (Sp.mono h ?_)
  rintro rS2 shS2 S2 ⟨qS2, uS2, h⟩
  subst uS2
  rw [qS2]
  exact r_return (pc := 23) d_Tr_become_23 rfl rfl (Nat.le_refl _) ⟨rfl, rfl, h⟩
set_option maxRecDepth 4000 in
theorem e_Tr_put {l : Launch} {d : Nat} {sh : aw_SH} {S : aw_S} {P : aw_S → Prop} {a : Nat} {p0 : Int32} {p1 : Int64} (sa : sh[a]? = some (0, 1)) (h : ∃ r1, S.2.2 a 0 = some r1 ∧ Sp l m_Tr_cut d 0 0 [.ref a, .long p1] sh S (gL sh (fun x3 S2 => ∃ n5, sh[r1]? = some (4, n5) ∧ vp_in p0 n5 ∧ P (aw_uL S2 r1 p0.toNatClampNeg x3)))) : Sp l m_Tr_put (d + 1) 0 0 [.ref a, .int p0, .long p1] sh S (gV sh P) := by
  refine Sp.of k_Tr_put (ls := [.ref a, .int p0, .long p1, .null]) rfl (Nat.le_of_ble_eq_true rfl) ?_
  refine r_aload_n (pc := 0) d_Tr_put_0 (x := a) rfl ?_
  obtain ⟨r1, er1, h⟩ := h
  refine r_getR (pc := 1) d_Tr_put_1 f_Tr_9 sa (Or.inr ⟨_, rfl⟩) (r := r1) er1 ?_
  refine r_iload_n (pc := 4) d_Tr_put_4 (x := p0) rfl ?_
  refine r_aload_n (pc := 5) d_Tr_put_5 (x := a) rfl ?_
  refine r_lload_n (pc := 6) d_Tr_put_6 (x := p1) rfl ?_
  refine r_callV (pc := 7) (k := a) (As := [.long p1]) (rest := [.int p0, .ref r1]) (mc' := 0) (ms' := 0) lk_Tr_32 in_Tr_cut se_Tr_cut sa rfl d_Tr_put_7 k_Tr_cut rfl rfl (Nat.le_of_ble_eq_true rfl) (by decide) (by decide) (Sp.mono h ?_)
  rintro rS2 shS2 S2 ⟨qS2, x3, uS2, h⟩
  subst uS2
  rw [qS2]
  obtain ⟨n5, s4, h⟩ := h
  obtain ⟨g6, h⟩ := h
  refine r_last (pc := 10) d_Tr_put_10 s4 g6 ?_
  exact r_return (pc := 11) d_Tr_put_11 rfl rfl (Nat.le_refl _) ⟨rfl, rfl, h⟩
set_option maxRecDepth 4000 in
theorem e_Tr_cut {l : Launch} {d : Nat} {sh : aw_SH} {S : aw_S} {P : Int64 → aw_S → Prop} {a : Nat} {p0 : Int64} (sa : sh[a]? = some (0, 1)) (h : ((((S.1 a 2 : Int32).toInt < 0 ∨ 2 < (S.1 a 2 : Int32).toInt) → P p0 S) ∧ ((S.1 a 2) = 0 → P p0.toInt32.toInt8.toInt32.toInt64 S) ∧ ((S.1 a 2) = 1 → P p0.toInt32.toInt16.toInt32.toInt64 S) ∧ ((S.1 a 2) = 2 → P p0.toInt32.toInt64 S))) : Sp l m_Tr_cut (d + 1) 0 0 [.ref a, .long p0] sh S (gL sh P) := by
  refine Sp.of k_Tr_cut (ls := [.ref a, .long p0, .null]) rfl (Nat.le_of_ble_eq_true rfl) ?_
  refine r_aload_n (pc := 0) d_Tr_cut_0 (x := a) rfl ?_
  refine r_getI (pc := 1) d_Tr_cut_1 f_Tr_19 sa rfl ?_
  rcases aw_sw (S.1 a 2) 0 2 with q1 | ⟨kq1, q1, wq1⟩
  · refine r_tabOut (pc := 4) d_Tr_cut_4 q1 (tgt := 46) (by decide) ?_
    replace h := h.1 q1
    refine r_lload_n (pc := 46) d_Tr_cut_46 (x := p0) rfl ?_
    exact r_lreturn (pc := 47) d_Tr_cut_47 rfl rfl (Nat.le_refl _) ⟨rfl, _, rfl, h⟩
  · rcases (show kq1 = 0 ∨ kq1 = 1 ∨ kq1 = 2 by omega) with rfl | rfl | rfl
    · refine r_tabIn (pc := 4) d_Tr_cut_4 (off := 28) (by omega) (by omega) (by rw [q1]; rfl) (tgt := 32) (by decide) ?_
      replace h := h.2.1 (aw_ix (y := 0) q1 (by decide))
      refine r_lload_n (pc := 32) d_Tr_cut_32 (x := p0) rfl ?_
      refine r_l2i (pc := 33) d_Tr_cut_33 ?_
      refine r_i2b (pc := 34) d_Tr_cut_34 ?_
      refine r_i2l (pc := 35) d_Tr_cut_35 ?_
      exact r_lreturn (pc := 36) d_Tr_cut_36 rfl rfl (Nat.le_refl _) ⟨rfl, _, rfl, h⟩
    · refine r_tabIn (pc := 4) d_Tr_cut_4 (off := 33) (by omega) (by omega) (by rw [q1]; rfl) (tgt := 37) (by decide) ?_
      replace h := h.2.2.1 (aw_ix (y := 1) q1 (by decide))
      refine r_lload_n (pc := 37) d_Tr_cut_37 (x := p0) rfl ?_
      refine r_l2i (pc := 38) d_Tr_cut_38 ?_
      refine r_i2s (pc := 39) d_Tr_cut_39 ?_
      refine r_i2l (pc := 40) d_Tr_cut_40 ?_
      exact r_lreturn (pc := 41) d_Tr_cut_41 rfl rfl (Nat.le_refl _) ⟨rfl, _, rfl, h⟩
    · refine r_tabIn (pc := 4) d_Tr_cut_4 (off := 38) (by omega) (by omega) (by rw [q1]; rfl) (tgt := 42) (by decide) ?_
      replace h := h.2.2.2 (aw_ix (y := 2) q1 (by decide))
      refine r_lload_n (pc := 42) d_Tr_cut_42 (x := p0) rfl ?_
      refine r_l2i (pc := 43) d_Tr_cut_43 ?_
      refine r_i2l (pc := 44) d_Tr_cut_44 ?_
      exact r_lreturn (pc := 45) d_Tr_cut_45 rfl rfl (Nat.le_refl _) ⟨rfl, _, rfl, h⟩
set_option maxRecDepth 4000 in
theorem e_Tr_hasRoom {l : Launch} {d : Nat} {sh : aw_SH} {S : aw_S} {P : Int32 → aw_S → Prop} {a : Nat} {p0 : Int32} {p1 : Int32} (sa : sh[a]? = some (0, 1)) (h : (((S.1 a 3) < p0 → P 0 S) ∧ (¬ (S.1 a 3) < p0 → ((((S.1 a 3) - p0) < p1 → P 0 S) ∧ (¬ ((S.1 a 3) - p0) < p1 → P 1 S))))) : Sp l m_Tr_hasRoom (d + 1) 0 0 [.ref a, .int p0, .int p1] sh S (gI sh P) := by
  refine Sp.of k_Tr_hasRoom (ls := [.ref a, .int p0, .int p1]) rfl (Nat.le_of_ble_eq_true rfl) ?_
  refine r_iload_n (pc := 0) d_Tr_hasRoom_0 (x := p0) rfl ?_
  refine r_aload_n (pc := 1) d_Tr_hasRoom_1 (x := a) rfl ?_
  refine r_getI (pc := 2) d_Tr_hasRoom_2 f_Tr_23 sa rfl ?_
  refine r_icmp_gt (pc := 5) d_Tr_hasRoom_5 (tgt := 22) (by decide) (fun c1 => ?_) (fun c1 => ?_)
  · replace h := h.1 c1
    refine r_iconst (pc := 22) d_Tr_hasRoom_22 (v := 0) (by decide) ?_
    exact r_zreturn (pc := 23) d_Tr_hasRoom_23 (v := 0) rfl (by decide) rfl (Nat.le_refl _) ⟨rfl, _, rfl, h⟩
  · replace h := h.2 c1
    refine r_iload_n (pc := 8) d_Tr_hasRoom_8 (x := p1) rfl ?_
    refine r_aload_n (pc := 9) d_Tr_hasRoom_9 (x := a) rfl ?_
    refine r_getI (pc := 10) d_Tr_hasRoom_10 f_Tr_23 sa rfl ?_
    refine r_iload_n (pc := 13) d_Tr_hasRoom_13 (x := p0) rfl ?_
    refine r_isub (pc := 14) d_Tr_hasRoom_14 ?_
    refine r_icmp_gt (pc := 15) d_Tr_hasRoom_15 (tgt := 22) (by decide) (fun c2 => ?_) (fun c2 => ?_)
    · replace h := h.1 c2
      refine r_iconst (pc := 22) d_Tr_hasRoom_22 (v := 0) (by decide) ?_
      exact r_zreturn (pc := 23) d_Tr_hasRoom_23 (v := 0) rfl (by decide) rfl (Nat.le_refl _) ⟨rfl, _, rfl, h⟩
    · replace h := h.2 c2
      refine r_iconst (pc := 18) d_Tr_hasRoom_18 (v := 1) (by decide) ?_
      refine r_goto (pc := 19) d_Tr_hasRoom_19 (tgt := 23) (by decide) ?_
      exact r_zreturn (pc := 23) d_Tr_hasRoom_23 (v := 1) rfl (by decide) rfl (Nat.le_refl _) ⟨rfl, _, rfl, h⟩
set_option maxRecDepth 4000 in
theorem e_Tr_areBelow {l : Launch} {d : Nat} {sh : aw_SH} {S : aw_S} {P : Int32 → aw_S → Prop} {a : Nat} {p0 : Int32} {p1 : Int32} {p2 : Int32} {p3 : Int64} (sa : sh[a]? = some (0, 1)) (h : AW l m_Tr_areBelow (d + 1) 0 0 (gI sh P) 0 0 3 [.ref a, .null, .int p1, .int p2, .long p3, .null, .int p0] [] sh S) : Sp l m_Tr_areBelow (d + 1) 0 0 [.ref a, .int p0, .int p1, .int p2, .long p3] sh S (gI sh P) := by
  refine Sp.of k_Tr_areBelow (ls := [.ref a, .int p0, .int p1, .int p2, .long p3, .null, .null]) rfl (Nat.le_of_ble_eq_true rfl) ?_
  refine r_iload_n (pc := 0) d_Tr_areBelow_0 (x := p0) rfl ?_
  refine r_istore (pc := 1) (hd := d_Tr_areBelow_1) (hi := by decide) (ls2 := [.ref a, .int p0, .int p1, .int p2, .long p3, .null, .int p0]) (h2 := rfl) ?_
  exact r_weak (ls2 := [.ref a, .null, .int p1, .int p2, .long p3, .null, .int p0]) ⟨Or.inr rfl, Or.inl rfl, Or.inr rfl, Or.inr rfl, Or.inr rfl, Or.inl rfl, Or.inr rfl, trivial⟩ h
set_option maxRecDepth 4000 in
theorem s_Tr_areBelow_3 {l : Launch} {d : Nat} {sh : aw_SH} {S : aw_S} {P : Int32 → aw_S → Prop} {a : Nat} {i2 : Int32} {i3 : Int32} {i4 : Int64} {i6 : Int32} (sa : sh[a]? = some (0, 1)) (h : ((i2 ≤ i6 → P 1 S) ∧ (¬ i2 ≤ i6 → ∃ r2, S.2.2 a 0 = some r2 ∧ ∃ n4, sh[r2]? = some (4, n4) ∧ vp_in i6 n4 ∧ (((lg_cmp (S.2.1 r2 i6.toNatClampNeg) 0) < 0 → P 0 S) ∧ (¬ (lg_cmp (S.2.1 r2 i6.toNatClampNeg) 0) < 0 → vp_in i6 n4 ∧ (((lg_cmp (S.2.1 r2 i6.toNatClampNeg) i4) < 0 → AW l m_Tr_areBelow (d + 1) 0 0 (gI sh P) 0 0 3 [.ref a, .null, .int i2, .int i3, .long i4, .null, .int (i6 + i3)] [] sh S) ∧ (¬ (lg_cmp (S.2.1 r2 i6.toNatClampNeg) i4) < 0 → P 0 S))))))) : AW l m_Tr_areBelow (d + 1) 0 0 (gI sh P) 0 0 3 [.ref a, .null, .int i2, .int i3, .long i4, .null, .int i6] [] sh S := by
  refine r_iload (pc := 3) d_Tr_areBelow_3 (x := i6) rfl ?_
  refine r_iload_n (pc := 5) d_Tr_areBelow_5 (x := i2) rfl ?_
  refine r_icmp_ge (pc := 6) d_Tr_areBelow_6 (tgt := 45) (by decide) (fun c1 => ?_) (fun c1 => ?_)
  · replace h := h.1 c1
    refine r_iconst (pc := 45) d_Tr_areBelow_45 (v := 1) (by decide) ?_
    exact r_zreturn (pc := 46) d_Tr_areBelow_46 (v := 1) rfl (by decide) rfl (Nat.le_refl _) ⟨rfl, _, rfl, h⟩
  · replace h := h.2 c1
    refine r_aload_n (pc := 9) d_Tr_areBelow_9 (x := a) rfl ?_
    obtain ⟨r2, er2, h⟩ := h
    refine r_getR (pc := 10) d_Tr_areBelow_10 f_Tr_9 sa (Or.inr ⟨_, rfl⟩) (r := r2) er2 ?_
    refine r_iload (pc := 13) d_Tr_areBelow_13 (x := i6) rfl ?_
    obtain ⟨n4, s3, h⟩ := h
    obtain ⟨g5, h⟩ := h
    refine r_lald (pc := 15) d_Tr_areBelow_15 s3 g5 ?_
    refine r_lconst (pc := 16) d_Tr_areBelow_16 (v := 0) (by decide) ?_
    refine r_lcmp (pc := 17) d_Tr_areBelow_17 ?_
    refine r_if_lt (pc := 18) d_Tr_areBelow_18 (tgt := 34) (by decide) (fun c6 => ?_) (fun c6 => ?_)
    · replace h := h.1 c6
      refine r_iconst (pc := 34) d_Tr_areBelow_34 (v := 0) (by decide) ?_
      exact r_zreturn (pc := 35) d_Tr_areBelow_35 (v := 0) rfl (by decide) rfl (Nat.le_refl _) ⟨rfl, _, rfl, h⟩
    · replace h := h.2 c6
      refine r_aload_n (pc := 21) d_Tr_areBelow_21 (x := a) rfl ?_
      refine r_getR (pc := 22) d_Tr_areBelow_22 f_Tr_9 sa (Or.inr ⟨_, rfl⟩) (r := r2) er2 ?_
      refine r_iload (pc := 25) d_Tr_areBelow_25 (x := i6) rfl ?_
      obtain ⟨g7, h⟩ := h
      refine r_lald (pc := 27) d_Tr_areBelow_27 s3 g7 ?_
      refine r_lload (pc := 28) d_Tr_areBelow_28 (x := i4) rfl ?_
      refine r_lcmp (pc := 30) d_Tr_areBelow_30 ?_
      refine r_if_lt (pc := 31) d_Tr_areBelow_31 (tgt := 36) (by decide) (fun c8 => ?_) (fun c8 => ?_)
      · replace h := h.1 c8
        refine r_iload (pc := 36) d_Tr_areBelow_36 (x := i6) rfl ?_
        refine r_iload_n (pc := 38) d_Tr_areBelow_38 (x := i3) rfl ?_
        refine r_iadd (pc := 39) d_Tr_areBelow_39 ?_
        refine r_istore (pc := 40) (hd := d_Tr_areBelow_40) (hi := by decide) (ls2 := [.ref a, .null, .int i2, .int i3, .long i4, .null, .int (i6 + i3)]) (h2 := rfl) ?_
        refine r_goto (pc := 42) d_Tr_areBelow_42 (tgt := 3) (by decide) ?_
        exact h
      · replace h := h.2 c8
        refine r_iconst (pc := 34) d_Tr_areBelow_34 (v := 0) (by decide) ?_
        exact r_zreturn (pc := 35) d_Tr_areBelow_35 (v := 0) rfl (by decide) rfl (Nat.le_refl _) ⟨rfl, _, rfl, h⟩
