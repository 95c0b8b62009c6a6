set_option maxRecDepth 4000 in
theorem e_Pl_undoneBy {l : Launch} {d : Nat} {sh : aw_SH} {S : aw_S} {P : Int32 → aw_S → Prop} {a : Nat} {p0 : Int32} {p1 : Int32} {p2 : Int32} (sa : sh[a]? = some (0, 3)) (h : AW l m_Pl_undoneBy (d + 1) 0 0 (gI sh P) 0 0 8 [.ref a, .int p0, .int p1, .int p2, .int ((S.1 a 1) - (1 : Int32)), .null] [] sh S) : Sp l m_Pl_undoneBy (d + 1) 0 0 [.ref a, .int p0, .int p1, .int p2] sh S (gI sh P) := by
  refine Sp.of k_Pl_undoneBy (ls := [.ref a, .int p0, .int p1, .int p2, .null, .null]) rfl (Nat.le_of_ble_eq_true rfl) ?_
  refine r_aload_n (pc := 0) d_Pl_undoneBy_0 (x := a) rfl ?_
  refine r_getI (pc := 1) d_Pl_undoneBy_1 f_Pl_22 sa rfl ?_
  refine r_iconst (pc := 4) d_Pl_undoneBy_4 (v := 1) (by decide) ?_
  refine r_isub (pc := 5) d_Pl_undoneBy_5 ?_
  refine r_istore (pc := 6) (hd := d_Pl_undoneBy_6) (hi := by decide) (ls2 := [.ref a, .int p0, .int p1, .int p2, .int ((S.1 a 1) - (1 : Int32)), .null]) (h2 := rfl) ?_
  exact h
set_option maxRecDepth 4000 in
theorem s_Pl_undoneBy_8 {l : Launch} {d : Nat} {sh : aw_SH} {S : aw_S} {P : Int32 → aw_S → Prop} {a : Nat} {i1 : Int32} {i2 : Int32} {i3 : Int32} {i4 : Int32} (sa : sh[a]? = some (0, 3)) (h : ((i4 < 0 → P (-1) S) ∧ (¬ i4 < 0 → ∃ r2, S.2.2 a 0 = some r2 ∧ ∃ n4, sh[r2]? = some (3, n4) ∧ vp_in i4 n4 ∧ ((((i3 >>> (((S.1 r2 i4.toNatClampNeg) &&& (7 : Int32)) &&& 31)) &&& (1 : Int32)) = 0 → AW l m_Pl_undoneBy (d + 1) 0 0 (gI sh P) 0 0 8 [.ref a, .int i1, .int i2, .int i3, .int (i4 + (-1)), .null] [] sh S) ∧ (¬ ((i3 >>> (((S.1 r2 i4.toNatClampNeg) &&& (7 : Int32)) &&& 31)) &&& (1 : Int32)) = 0 → ((¬ ((S.1 r2 i4.toNatClampNeg) &&& (7 : Int32)) = i1 → P (-1) S) ∧ (((S.1 r2 i4.toNatClampNeg) &&& (7 : Int32)) = i1 → vp_in i4 n4 ∧ (((((S.1 r2 i4.toNatClampNeg) >>> ((3 : Int32) &&& 31)) &&& (1 : Int32)) = i2 → P (-1) S) ∧ (¬ (((S.1 r2 i4.toNatClampNeg) >>> ((3 : Int32) &&& 31)) &&& (1 : Int32)) = i2 → P i4 S))))))))) : AW l m_Pl_undoneBy (d + 1) 0 0 (gI sh P) 0 0 8 [.ref a, .int i1, .int i2, .int i3, .int i4, .null] [] sh S := by
  refine r_iload (pc := 8) d_Pl_undoneBy_8 (x := i4) rfl ?_
  refine r_if_lt (pc := 10) d_Pl_undoneBy_10 (tgt := 68) (by decide) (fun c1 => ?_) (fun c1 => ?_)
  · replace h := h.1 c1
    refine r_iconst (pc := 68) d_Pl_undoneBy_68 (v := (-1)) (by decide) ?_
    exact r_ireturn (pc := 69) d_Pl_undoneBy_69 rfl rfl (Nat.le_refl _) ⟨rfl, _, rfl, h⟩
  · replace h := h.2 c1
    refine r_aload_n (pc := 13) d_Pl_undoneBy_13 (x := a) rfl ?_
    obtain ⟨r2, er2, h⟩ := h
    refine r_getR (pc := 14) d_Pl_undoneBy_14 f_Pl_9 sa (Or.inr ⟨_, rfl⟩) (r := r2) er2 ?_
    refine r_iload (pc := 17) d_Pl_undoneBy_17 (x := i4) rfl ?_
    obtain ⟨n4, s3, h⟩ := h
    obtain ⟨g5, h⟩ := h
    refine r_iald (pc := 19) d_Pl_undoneBy_19 s3 g5 ?_
    refine r_bipush (pc := 20) d_Pl_undoneBy_20 (v := 7) (by decide) ?_
    refine r_iand (pc := 22) d_Pl_undoneBy_22 ?_
    refine r_istore (pc := 23) (hd := d_Pl_undoneBy_23) (hi := by decide) (ls2 := [.ref a, .int i1, .int i2, .int i3, .int i4, .int ((S.1 r2 i4.toNatClampNeg) &&& (7 : Int32))]) (h2 := rfl) ?_
    refine r_iload_n (pc := 25) d_Pl_undoneBy_25 (x := i3) rfl ?_
    refine r_iload (pc := 26) d_Pl_undoneBy_26 (x := ((S.1 r2 i4.toNatClampNeg) &&& (7 : Int32))) rfl ?_
    refine r_ishr (pc := 28) d_Pl_undoneBy_28 ?_
    refine r_iconst (pc := 29) d_Pl_undoneBy_29 (v := 1) (by decide) ?_
    refine r_iand (pc := 30) d_Pl_undoneBy_30 ?_
    refine r_if_eq (pc := 31) d_Pl_undoneBy_31 (tgt := 62) (by decide) (fun c6 => ?_) (fun c6 => ?_)
    · replace h := h.1 c6
      refine r_iinc (pc := 62) d_Pl_undoneBy_62 (hi := by decide) (x := i4) rfl (v := i4 + (-1)) rfl (ls2 := [.ref a, .int i1, .int i2, .int i3, .int (i4 + (-1)), .int ((S.1 r2 i4.toNatClampNeg) &&& (7 : Int32))]) rfl ?_
      refine r_goto (pc := 65) d_Pl_undoneBy_65 (tgt := 8) (by decide) ?_
      exact r_weak (ls2 := [.ref a, .int i1, .int i2, .int i3, .int (i4 + (-1)), .null]) ⟨Or.inr rfl, Or.inr rfl, Or.inr rfl, Or.inr rfl, Or.inr rfl, Or.inl rfl, trivial⟩ h
    · replace h := h.2 c6
      refine r_iload (pc := 34) d_Pl_undoneBy_34 (x := ((S.1 r2 i4.toNatClampNeg) &&& (7 : Int32))) rfl ?_
      refine r_iload_n (pc := 36) d_Pl_undoneBy_36 (x := i1) rfl ?_
      refine r_icmp_ne (pc := 37) d_Pl_undoneBy_37 (tgt := 60) (by decide) (fun c7 => ?_) (fun c7 => ?_)
      · replace h := h.1 c7
        refine r_iconst (pc := 60) d_Pl_undoneBy_60 (v := (-1)) (by decide) ?_
        exact r_ireturn (pc := 61) d_Pl_undoneBy_61 rfl rfl (Nat.le_refl _) ⟨rfl, _, rfl, h⟩
      · replace h := h.2 c7
        refine r_aload_n (pc := 40) d_Pl_undoneBy_40 (x := a) rfl ?_
        refine r_getR (pc := 41) d_Pl_undoneBy_41 f_Pl_9 sa (Or.inr ⟨_, rfl⟩) (r := r2) er2 ?_
        refine r_iload (pc := 44) d_Pl_undoneBy_44 (x := i4) rfl ?_
        obtain ⟨g8, h⟩ := h
        refine r_iald (pc := 46) d_Pl_undoneBy_46 s3 g8 ?_
        refine r_iconst (pc := 47) d_Pl_undoneBy_47 (v := 3) (by decide) ?_
        refine r_ishr (pc := 48) d_Pl_undoneBy_48 ?_
        refine r_iconst (pc := 49) d_Pl_undoneBy_49 (v := 1) (by decide) ?_
        refine r_iand (pc := 50) d_Pl_undoneBy_50 ?_
        refine r_iload_n (pc := 51) d_Pl_undoneBy_51 (x := i2) rfl ?_
        refine r_icmp_eq (pc := 52) d_Pl_undoneBy_52 (tgt := 60) (by decide) (fun c9 => ?_) (fun c9 => ?_)
        · replace h := h.1 c9
          refine r_iconst (pc := 60) d_Pl_undoneBy_60 (v := (-1)) (by decide) ?_
          exact r_ireturn (pc := 61) d_Pl_undoneBy_61 rfl rfl (Nat.le_refl _) ⟨rfl, _, rfl, h⟩
        · replace h := h.2 c9
          refine r_iload (pc := 55) d_Pl_undoneBy_55 (x := i4) rfl ?_
          refine r_goto (pc := 57) d_Pl_undoneBy_57 (tgt := 61) (by decide) ?_
          exact r_ireturn (pc := 61) d_Pl_undoneBy_61 rfl rfl (Nat.le_refl _) ⟨rfl, _, rfl, h⟩
set_option maxRecDepth 4000 in
theorem e_Pl_upperAt {l : Launch} {d : Nat} {sh : aw_SH} {S : aw_S} {P : Int32 → aw_S → Prop} {a : Nat} {p0 : Int32} (sa : sh[a]? = some (0, 3)) (h : ∃ r1, S.2.2 a 0 = some r1 ∧ ∃ n3, sh[r1]? = some (3, n3) ∧ vp_in p0 n3 ∧ P (((S.1 r1 p0.toNatClampNeg) >>> ((4 : Int32) &&& 31)) &&& (7 : Int32)) S) : Sp l m_Pl_upperAt (d + 1) 0 0 [.ref a, .int p0] sh S (gI sh P) := by
  refine Sp.of k_Pl_upperAt (ls := [.ref a, .int p0]) rfl (Nat.le_of_ble_eq_true rfl) ?_
  refine r_aload_n (pc := 0) d_Pl_upperAt_0 (x := a) rfl ?_
  obtain ⟨r1, er1, h⟩ := h
  refine r_getR (pc := 1) d_Pl_upperAt_1 f_Pl_9 sa (Or.inr ⟨_, rfl⟩) (r := r1) er1 ?_
  refine r_iload_n (pc := 4) d_Pl_upperAt_4 (x := p0) rfl ?_
  obtain ⟨n3, s2, h⟩ := h
  obtain ⟨g4, h⟩ := h
  refine r_iald (pc := 5) d_Pl_upperAt_5 s2 g4 ?_
  refine r_iconst (pc := 6) d_Pl_upperAt_6 (v := 4) (by decide) ?_
  refine r_ishr (pc := 7) d_Pl_upperAt_7 ?_
  refine r_bipush (pc := 8) d_Pl_upperAt_8 (v := 7) (by decide) ?_
  refine r_iand (pc := 10) d_Pl_upperAt_10 ?_
  exact r_ireturn (pc := 11) d_Pl_upperAt_11 rfl rfl (Nat.le_refl _) ⟨rfl, _, rfl, h⟩
set_option maxRecDepth 4000 in
theorem e_Pl_lowerAt {l : Launch} {d : Nat} {sh : aw_SH} {S : aw_S} {P : Int32 → aw_S → Prop} {a : Nat} {p0 : Int32} (sa : sh[a]? = some (0, 3)) (h : ∃ r1, S.2.2 a 0 = some r1 ∧ ∃ n3, sh[r1]? = some (3, n3) ∧ vp_in p0 n3 ∧ P (((S.1 r1 p0.toNatClampNeg) >>> ((7 : Int32) &&& 31)) &&& (7 : Int32)) S) : Sp l m_Pl_lowerAt (d + 1) 0 0 [.ref a, .int p0] sh S (gI sh P) := by
  refine Sp.of k_Pl_lowerAt (ls := [.ref a, .int p0]) rfl (Nat.le_of_ble_eq_true rfl) ?_
  refine r_aload_n (pc := 0) d_Pl_lowerAt_0 (x := a) rfl ?_
  obtain ⟨r1, er1, h⟩ := h
  refine r_getR (pc := 1) d_Pl_lowerAt_1 f_Pl_9 sa (Or.inr ⟨_, rfl⟩) (r := r1) er1 ?_
  refine r_iload_n (pc := 4) d_Pl_lowerAt_4 (x := p0) rfl ?_
  obtain ⟨n3, s2, h⟩ := h
  obtain ⟨g4, h⟩ := h
  refine r_iald (pc := 5) d_Pl_lowerAt_5 s2 g4 ?_
  refine r_bipush (pc := 6) d_Pl_lowerAt_6 (v := 7) (by decide) ?_
  refine r_ishr (pc := 8) d_Pl_lowerAt_8 ?_
  refine r_bipush (pc := 9) d_Pl_lowerAt_9 (v := 7) (by decide) ?_
  refine r_iand (pc := 11) d_Pl_lowerAt_11 ?_
  exact r_ireturn (pc := 12) d_Pl_lowerAt_12 rfl rfl (Nat.le_refl _) ⟨rfl, _, rfl, h⟩
set_option maxRecDepth 4000 in
theorem e_Pl_gapAt {l : Launch} {d : Nat} {sh : aw_SH} {S : aw_S} {P : Int32 → aw_S → Prop} {a : Nat} {p0 : Int32} (sa : sh[a]? = some (0, 3)) (h : ∃ r1, S.2.2 a 0 = some r1 ∧ ∃ n3, sh[r1]? = some (3, n3) ∧ vp_in p0 n3 ∧ P ((S.1 r1 p0.toNatClampNeg) &&& (7 : Int32)) S) : Sp l m_Pl_gapAt (d + 1) 0 0 [.ref a, .int p0] sh S (gI sh P) := by
  refine Sp.of k_Pl_gapAt (ls := [.ref a, .int p0]) rfl (Nat.le_of_ble_eq_true rfl) ?_
  refine r_aload_n (pc := 0) d_Pl_gapAt_0 (x := a) rfl ?_
  obtain ⟨r1, er1, h⟩ := h
  refine r_getR (pc := 1) d_Pl_gapAt_1 f_Pl_9 sa (Or.inr ⟨_, rfl⟩) (r := r1) er1 ?_
  refine r_iload_n (pc := 4) d_Pl_gapAt_4 (x := p0) rfl ?_
  obtain ⟨n3, s2, h⟩ := h
  obtain ⟨g4, h⟩ := h
  refine r_iald (pc := 5) d_Pl_gapAt_5 s2 g4 ?_
  refine r_bipush (pc := 6) d_Pl_gapAt_6 (v := 7) (by decide) ?_
  refine r_iand (pc := 8) d_Pl_gapAt_8 ?_
  exact r_ireturn (pc := 9) d_Pl_gapAt_9 rfl rfl (Nat.le_refl _) ⟨rfl, _, rfl, h⟩
set_option maxRecDepth 4000 in
theorem e_Pl_remove {l : Launch} {d : Nat} {sh : aw_SH} {S : aw_S} {P : aw_S → Prop} {a : Nat} {p0 : Int32} (sa : sh[a]? = some (0, 3)) (h : ((p0 < 0 → P S) ∧ (¬ p0 < 0 → ((p0 < (S.1 a 1) → ∃ r3, (aw_uI S a 1 ((S.1 a 1) - (1 : Int32))).2.2 a 0 = some r3 ∧ ∃ n5, sh[r3]? = some (3, n5) ∧ ¬ (p0 + (1 : Int32) : Int32) < 0 ∧ ¬ (p0 : Int32) < 0 ∧ ¬ (((aw_uI S a 1 ((S.1 a 1) - (1 : Int32))).1 a 1) - p0 : Int32) < 0 ∧ (p0 + (1 : Int32) : Int32).toNatClampNeg + (((aw_uI S a 1 ((S.1 a 1) - (1 : Int32))).1 a 1) - p0 : Int32).toNatClampNeg ≤ n5 ∧ (p0 : Int32).toNatClampNeg + (((aw_uI S a 1 ((S.1 a 1) - (1 : Int32))).1 a 1) - p0 : Int32).toNatClampNeg ≤ n5 ∧ P (aw_cpi (aw_uI S a 1 ((S.1 a 1) - (1 : Int32))) r3 r3 (p0 + (1 : Int32)) p0 (((aw_uI S a 1 ((S.1 a 1) - (1 : Int32))).1 a 1) - p0))) ∧ (¬ p0 < (S.1 a 1) → P S))))) : Sp l m_Pl_remove (d + 1) 0 0 [.ref a, .int p0] sh S (gV sh P) := by
  refine Sp.of k_Pl_remove (ls := [.ref a, .int p0]) rfl (Nat.le_of_ble_eq_true rfl) ?_
  refine r_iload_n (pc := 0) d_Pl_remove_0 (x := p0) rfl ?_
  refine r_if_lt (pc := 1) d_Pl_remove_1 (tgt := 12) (by decide) (fun c1 => ?_) (fun c1 => ?_)
  · replace h := h.1 c1
    exact r_return (pc := 12) d_Pl_remove_12 rfl rfl (Nat.le_refl _) ⟨rfl, rfl, h⟩
  · replace h := h.2 c1
    refine r_iload_n (pc := 4) d_Pl_remove_4 (x := p0) rfl ?_
    refine r_aload_n (pc := 5) d_Pl_remove_5 (x := a) rfl ?_
    refine r_getI (pc := 6) d_Pl_remove_6 f_Pl_22 sa rfl ?_
    refine r_icmp_lt (pc := 9) d_Pl_remove_9 (tgt := 13) (by decide) (fun c2 => ?_) (fun c2 => ?_)
    · replace h := h.1 c2
      refine r_aload_n (pc := 13) d_Pl_remove_13 (x := a) rfl ?_
      refine r_dup (pc := 14) d_Pl_remove_14 rfl ?_
      refine r_getI (pc := 15) d_Pl_remove_15 f_Pl_22 sa rfl ?_
      refine r_iconst (pc := 18) d_Pl_remove_18 (v := 1) (by decide) ?_
      refine r_isub (pc := 19) d_Pl_remove_19 ?_
      refine r_putI (pc := 20) d_Pl_remove_20 f_Pl_22 sa rfl ?_
      refine r_aload_n (pc := 23) d_Pl_remove_23 (x := a) rfl ?_
      obtain ⟨r3, er3, h⟩ := h
      refine r_getR (pc := 24) d_Pl_remove_24 f_Pl_9 sa (Or.inr ⟨_, rfl⟩) (r := r3) er3 ?_
      refine r_iload_n (pc := 27) d_Pl_remove_27 (x := p0) rfl ?_
      refine r_iconst (pc := 28) d_Pl_remove_28 (v := 1) (by decide) ?_
      refine r_iadd (pc := 29) d_Pl_remove_29 ?_
      refine r_aload_n (pc := 30) d_Pl_remove_30 (x := a) rfl ?_
      refine r_getR (pc := 31) d_Pl_remove_31 f_Pl_9 sa (Or.inr ⟨_, rfl⟩) (r := r3) er3 ?_
      refine r_iload_n (pc := 34) d_Pl_remove_34 (x := p0) rfl ?_
      refine r_aload_n (pc := 35) d_Pl_remove_35 (x := a) rfl ?_
      refine r_getI (pc := 36) d_Pl_remove_36 f_Pl_22 sa rfl ?_
      refine r_iload_n (pc := 39) d_Pl_remove_39 (x := p0) rfl ?_
      refine r_isub (pc := 40) d_Pl_remove_40 ?_
      obtain ⟨n5, s4, h⟩ := h
      obtain ⟨g6, g7, g8, g9, g10, h⟩ := h
      refine r_copyi (pc := 41) d_Pl_remove_41 ck_Pl_33 s4 s4 g6 g7 g8 g9 g10 (Nat.le_of_ble_eq_true rfl) ?_
      exact r_return (pc := 44) d_Pl_remove_44 rfl rfl (Nat.le_refl _) ⟨rfl, rfl, h⟩
    · replace h := h.2 c2
      exact r_return (pc := 12) d_Pl_remove_12 rfl rfl (Nat.le_refl _) ⟨rfl, rfl, h⟩
set_option maxRecDepth 4000 in
theorem e_Pl_packed {l : Launch} {d : Nat} {sh : aw_SH} {S : aw_S} {P : Int32 → aw_S → Prop} {p0 : Int32} {p1 : Int32} {p2 : Int32} {p3 : Int32} (h : P (((p0 ||| (p1 <<< ((3 : Int32) &&& 31))) ||| (p2 <<< ((4 : Int32) &&& 31))) ||| (p3 <<< ((7 : Int32) &&& 31))) S) : Sp l m_Pl_packed (d + 1) 0 0 [.int p0, .int p1, .int p2, .int p3] sh S (gI sh P) := by
  refine Sp.of k_Pl_packed (ls := [.int p0, .int p1, .int p2, .int p3]) rfl (Nat.le_of_ble_eq_true rfl) ?_
  refine r_iload_n (pc := 0) d_Pl_packed_0 (x := p0) rfl ?_
  refine r_iload_n (pc := 1) d_Pl_packed_1 (x := p1) rfl ?_
  refine r_iconst (pc := 2) d_Pl_packed_2 (v := 3) (by decide) ?_
  refine r_ishl (pc := 3) d_Pl_packed_3 ?_
  refine r_ior (pc := 4) d_Pl_packed_4 ?_
  refine r_iload_n (pc := 5) d_Pl_packed_5 (x := p2) rfl ?_
  refine r_iconst (pc := 6) d_Pl_packed_6 (v := 4) (by decide) ?_
  refine r_ishl (pc := 7) d_Pl_packed_7 ?_
  refine r_ior (pc := 8) d_Pl_packed_8 ?_
  refine r_iload_n (pc := 9) d_Pl_packed_9 (x := p3) rfl ?_
  refine r_bipush (pc := 10) d_Pl_packed_10 (v := 7) (by decide) ?_
  refine r_ishl (pc := 12) d_Pl_packed_12 ?_
  refine r_ior (pc := 13) d_Pl_packed_13 ?_
  exact r_ireturn (pc := 14) d_Pl_packed_14 rfl rfl (Nat.le_refl _) ⟨rfl, _, rfl, h⟩
set_option maxRecDepth 4000 in
theorem e_Pl_insert {l : Launch} {d : Nat} {sh : aw_SH} {S : aw_S} {P : aw_S → Prop} {a : Nat} {p0 : Int32} {p1 : Int32} (sa : sh[a]? = some (0, 3)) (h : ((p0 < 0 → P S) ∧ (¬ p0 < 0 → (((S.1 a 1) < p0 → P S) ∧ (¬ (S.1 a 1) < p0 → ∃ r3, S.2.2 a 0 = some r3 ∧ ∃ n5, sh[r3]? = some (3, n5) ∧ (((S.1 a 1) < (nI n5) → ¬ (p0 : Int32) < 0 ∧ ¬ (p0 + (1 : Int32) : Int32) < 0 ∧ ¬ ((S.1 a 1) - p0 : Int32) < 0 ∧ (p0 : Int32).toNatClampNeg + ((S.1 a 1) - p0 : Int32).toNatClampNeg ≤ n5 ∧ (p0 + (1 : Int32) : Int32).toNatClampNeg + ((S.1 a 1) - p0 : Int32).toNatClampNeg ≤ n5 ∧ vp_in p0 n5 ∧ P (aw_uI (aw_uI (aw_cpi S r3 r3 p0 (p0 + (1 : Int32)) ((S.1 a 1) - p0)) r3 p0.toNatClampNeg p1) a 1 (((aw_uI (aw_cpi S r3 r3 p0 (p0 + (1 : Int32)) ((S.1 a 1) - p0)) r3 p0.toNatClampNeg p1).1 a 1) + (1 : Int32)))) ∧ (¬ (S.1 a 1) < (nI n5) → P S))))))) : Sp l m_Pl_insert (d + 1) 0 0 [.ref a, .int p0, .int p1] sh S (gV sh P) := by
  refine Sp.of k_Pl_insert (ls := [.ref a, .int p0, .int p1]) rfl (Nat.le_of_ble_eq_true rfl) ?_
  refine r_iload_n (pc := 0) d_Pl_insert_0 (x := p0) rfl ?_
  refine r_if_lt (pc := 1) d_Pl_insert_1 (tgt := 24) (by decide) (fun c1 => ?_) (fun c1 => ?_)
  · replace h := h.1 c1
    exact r_return (pc := 24) d_Pl_insert_24 rfl rfl (Nat.le_refl _) ⟨rfl, rfl, h⟩
  · replace h := h.2 c1
    refine r_iload_n (pc := 4) d_Pl_insert_4 (x := p0) rfl ?_
    refine r_aload_n (pc := 5) d_Pl_insert_5 (x := a) rfl ?_
    refine r_getI (pc := 6) d_Pl_insert_6 f_Pl_22 sa rfl ?_
    refine r_icmp_gt (pc := 9) d_Pl_insert_9 (tgt := 24) (by decide) (fun c2 => ?_) (fun c2 => ?_)
    · replace h := h.1 c2
      exact r_return (pc := 24) d_Pl_insert_24 rfl rfl (Nat.le_refl _) ⟨rfl, rfl, h⟩
    · replace h := h.2 c2
      refine r_aload_n (pc := 12) d_Pl_insert_12 (x := a) rfl ?_
      refine r_getI (pc := 13) d_Pl_insert_13 f_Pl_22 sa rfl ?_
      refine r_aload_n (pc := 16) d_Pl_insert_16 (x := a) rfl ?_
      obtain ⟨r3, er3, h⟩ := h
      refine r_getR (pc := 17) d_Pl_insert_17 f_Pl_9 sa (Or.inr ⟨_, rfl⟩) (r := r3) er3 ?_
      obtain ⟨n5, s4, h⟩ := h
      refine r_alen (pc := 20) d_Pl_insert_20 (t := 2) s4 (by decide) ?_
      refine r_icmp_lt (pc := 21) d_Pl_insert_21 (tgt := 25) (by decide) (fun c6 => ?_) (fun c6 => ?_)
      · replace h := h.1 c6
        refine r_aload_n (pc := 25) d_Pl_insert_25 (x := a) rfl ?_
        refine r_getR (pc := 26) d_Pl_insert_26 f_Pl_9 sa (Or.inr ⟨_, rfl⟩) (r := r3) er3 ?_
        refine r_iload_n (pc := 29) d_Pl_insert_29 (x := p0) rfl ?_
        refine r_aload_n (pc := 30) d_Pl_insert_30 (x := a) rfl ?_
        refine r_getR (pc := 31) d_Pl_insert_31 f_Pl_9 sa (Or.inr ⟨_, rfl⟩) (r := r3) er3 ?_
        refine r_iload_n (pc := 34) d_Pl_insert_34 (x := p0) rfl ?_
        refine r_iconst (pc := 35) d_Pl_insert_35 (v := 1) (by decide) ?_
        refine r_iadd (pc := 36) d_Pl_insert_36 ?_
        refine r_aload_n (pc := 37) d_Pl_insert_37 (x := a) rfl ?_
        refine r_getI (pc := 38) d_Pl_insert_38 f_Pl_22 sa rfl ?_
        refine r_iload_n (pc := 41) d_Pl_insert_41 (x := p0) rfl ?_
        refine r_isub (pc := 42) d_Pl_insert_42 ?_
        obtain ⟨g7, g8, g9, g10, g11, h⟩ := h
        refine r_copyi (pc := 43) d_Pl_insert_43 ck_Pl_33 s4 s4 g7 g8 g9 g10 g11 (Nat.le_of_ble_eq_true rfl) ?_
        refine r_aload_n (pc := 46) d_Pl_insert_46 (x := a) rfl ?_
        refine r_getR (pc := 47) d_Pl_insert_47 f_Pl_9 sa (Or.inr ⟨_, rfl⟩) (r := r3) er3 ?_
        refine r_iload_n (pc := 50) d_Pl_insert_50 (x := p0) rfl ?_
        refine r_iload_n (pc := 51) d_Pl_insert_51 (x := p1) rfl ?_
        obtain ⟨g12, h⟩ := h
        refine r_iast (pc := 52) d_Pl_insert_52 s4 g12 ?_
        refine r_aload_n (pc := 53) d_Pl_insert_53 (x := a) rfl ?_
        refine r_dup (pc := 54) d_Pl_insert_54 rfl ?_
        refine r_getI (pc := 55) d_Pl_insert_55 f_Pl_22 sa rfl ?_
        refine r_iconst (pc := 58) d_Pl_insert_58 (v := 1) (by decide) ?_
        refine r_iadd (pc := 59) d_Pl_insert_59 ?_
        refine r_putI (pc := 60) d_Pl_insert_60 f_Pl_22 sa rfl ?_
        exact r_return (pc := 63) d_Pl_insert_63 rfl rfl (Nat.le_refl _) ⟨rfl, rfl, h⟩
      · replace h := h.2 c6
        exact r_return (pc := 24) d_Pl_insert_24 rfl rfl (Nat.le_refl _) ⟨rfl, rfl, h⟩
set_option maxRecDepth 4000 in
theorem e_Pl_timesOver {l : Launch} {d : Nat} {sh : aw_SH} {S : aw_S} {P : Int32 → aw_S → Prop} {a : Nat} {p0 : Int32} (sa : sh[a]? = some (0, 3)) (h : AW l m_Pl_timesOver (d + 1) 0 0 (gI sh P) 0 0 4 [.ref a, .int p0, .int 0, .int 0] [] sh S) : Sp l m_Pl_timesOver (d + 1) 0 0 [.ref a, .int p0] sh S (gI sh P) := by
  refine Sp.of k_Pl_timesOver (ls := [.ref a, .int p0, .null, .null]) rfl (Nat.le_of_ble_eq_true rfl) ?_
  refine r_iconst (pc := 0) d_Pl_timesOver_0 (v := 0) (by decide) ?_
  refine r_istore_n (pc := 1) (hk := rfl) (hd := d_Pl_timesOver_1) (hi := by decide) (ls2 := [.ref a, .int p0, .int 0, .null]) (h2 := rfl) ?_
  refine r_iconst (pc := 2) d_Pl_timesOver_2 (v := 0) (by decide) ?_
  refine r_istore_n (pc := 3) (hk := rfl) (hd := d_Pl_timesOver_3) (hi := by decide) (ls2 := [.ref a, .int p0, .int 0, .int 0]) (h2 := rfl) ?_
  exact h
set_option maxRecDepth 4000 in
theorem s_Pl_timesOver_4 {l : Launch} {d : Nat} {sh : aw_SH} {S : aw_S} {P : Int32 → aw_S → Prop} {a : Nat} {i1 : Int32} {i2 : Int32} {i3 : Int32} (sa : sh[a]? = some (0, 3)) (h : (((S.1 a 1) ≤ i3 → P i2 S) ∧ (¬ (S.1 a 1) ≤ i3 → Sp l m_Pl_upperAt d 0 0 [.ref a, .int i3] sh S (gI sh (fun x3 S2 => ((¬ x3 = i1 → AW l m_Pl_timesOver (d + 1) 0 0 (gI sh P) 0 0 4 [.ref a, .int i1, .int i2, .int (i3 + 1)] [] sh S2) ∧ (x3 = i1 → AW l m_Pl_timesOver (d + 1) 0 0 (gI sh P) 0 0 4 [.ref a, .int i1, .int (i2 + 1), .int (i3 + 1)] [] sh S2))))))) : AW l m_Pl_timesOver (d + 1) 0 0 (gI sh P) 0 0 4 [.ref a, .int i1, .int i2, .int i3] [] sh S := by
  refine r_iload_n (pc := 4) d_Pl_timesOver_4 (x := i3) rfl ?_
  refine r_aload_n (pc := 5) d_Pl_timesOver_5 (x := a) rfl ?_
  refine r_getI (pc := 6) d_Pl_timesOver_6 f_Pl_22 sa rfl ?_
  refine r_icmp_ge (pc := 9) d_Pl_timesOver_9 (tgt := 30) (by decide) (fun c1 => ?_) (fun c1 => ?_)
  · replace h := h.1 c1
    refine r_iload_n (pc := 30) d_Pl_timesOver_30 (x := i2) rfl ?_
    exact r_ireturn (pc := 31) d_Pl_timesOver_31 rfl rfl (Nat.le_refl _) ⟨rfl, _, rfl, h⟩
  · replace h := h.2 c1
    refine r_aload_n (pc := 12) d_Pl_timesOver_12 (x := a) rfl ?_
    refine r_iload_n (pc := 13) d_Pl_timesOver_13 (x := i3) rfl ?_
    refine r_callV (pc := 14) (k := a) (As := [.int i3]) (rest := []) (mc' := 0) (ms' := 0) lk_Pl_15 in_Pl_upperAt se_Pl_upperAt sa rfl d_Pl_timesOver_14 k_Pl_upperAt rfl rfl (Nat.le_of_ble_eq_true rfl) (by decide) (by decide) (Sp.mono h ?_)
    rintro rS2 shS2 S2 ⟨qS2, x3, uS2, h⟩
    subst uS2
    rw [qS2]
    refine r_iload_n (pc := 17) d_Pl_timesOver_17 (x := i1) rfl ?_
    refine r_icmp_ne (pc := 18) d_Pl_timesOver_18 (tgt := 24) (by decide) (fun c4 => ?_) (fun c4 => ?_)
    · replace h := h.1 c4
      refine r_iinc (pc := 24) d_Pl_timesOver_24 (hi := by decide) (x := i3) rfl (v := i3 + 1) rfl (ls2 := [.ref a, .int i1, .int i2, .int (i3 + 1)]) rfl ?_
      refine r_goto (pc := 27) d_Pl_timesOver_27 (tgt := 4) (by decide) ?_
      exact h
    · replace h := h.2 c4
      refine r_iinc (pc := 21) d_Pl_timesOver_21 (hi := by decide) (x := i2) rfl (v := i2 + 1) rfl (ls2 := [.ref a, .int i1, .int (i2 + 1), .int i3]) rfl ?_
      refine r_iinc (pc := 24) d_Pl_timesOver_24 (hi := by decide) (x := i3) rfl (v := i3 + 1) rfl (ls2 := [.ref a, .int i1, .int (i2 + 1), .int (i3 + 1)]) rfl ?_
      refine r_goto (pc := 27) d_Pl_timesOver_27 (tgt := 4) (by decide) ?_
      exact h
set_option maxRecDepth 4000 in
theorem e_Pl_overAt {l : Launch} {d : Nat} {sh : aw_SH} {S : aw_S} {P : Int32 → aw_S → Prop} {a : Nat} {p0 : Int32} (sa : sh[a]? = some (0, 3)) (h : ∃ r1, S.2.2 a 0 = some r1 ∧ ∃ n3, sh[r1]? = some (3, n3) ∧ vp_in p0 n3 ∧ P (((S.1 r1 p0.toNatClampNeg) >>> ((3 : Int32) &&& 31)) &&& (1 : Int32)) S) : Sp l m_Pl_overAt (d + 1) 0 0 [.ref a, .int p0] sh S (gI sh P) := by
  refine Sp.of k_Pl_overAt (ls := [.ref a, .int p0]) rfl (Nat.le_of_ble_eq_true rfl) ?_
  refine r_aload_n (pc := 0) d_Pl_overAt_0 (x := a) rfl ?_
  obtain ⟨r1, er1, h⟩ := h
  refine r_getR (pc := 1) d_Pl_overAt_1 f_Pl_9 sa (Or.inr ⟨_, rfl⟩) (r := r1) er1 ?_
  refine r_iload_n (pc := 4) d_Pl_overAt_4 (x := p0) rfl ?_
  obtain ⟨n3, s2, h⟩ := h
  obtain ⟨g4, h⟩ := h
  refine r_iald (pc := 5) d_Pl_overAt_5 s2 g4 ?_
  refine r_iconst (pc := 6) d_Pl_overAt_6 (v := 3) (by decide) ?_
  refine r_ishr (pc := 7) d_Pl_overAt_7 ?_
  refine r_iconst (pc := 8) d_Pl_overAt_8 (v := 1) (by decide) ?_
  refine r_iand (pc := 9) d_Pl_overAt_9 ?_
  exact r_ireturn (pc := 10) d_Pl_overAt_10 rfl rfl (Nat.le_refl _) ⟨rfl, _, rfl, h⟩
set_option maxRecDepth 4000 in
theorem e_Pl_has {l : Launch} {d : Nat} {sh : aw_SH} {S : aw_S} {P : Int32 → aw_S → Prop} {a : Nat} {p0 : Int32} {p1 : Int32} (sa : sh[a]? = some (0, 3)) (h : Sp l m_Pl_upperAt d 0 0 [.ref a, .int p0] sh S (gI sh (fun x2 S1 => ((x2 = p1 → P 1 S1) ∧ (¬ x2 = p1 → Sp l m_Pl_lowerAt d 0 0 [.ref a, .int p0] sh S1 (gI sh (fun x5 S4 => ((¬ x5 = p1 → P 0 S4) ∧ (x5 = p1 → P 1 S4))))))))) : Sp l m_Pl_has (d + 1) 0 0 [.ref a, .int p0, .int p1] sh S (gI sh P) := by
  refine Sp.of k_Pl_has (ls := [.ref a, .int p0, .int p1]) rfl (Nat.le_of_ble_eq_true rfl) ?_
  refine r_aload_n (pc := 0) d_Pl_has_0 (x := a) rfl ?_
  refine r_iload_n (pc := 1) d_Pl_has_1 (x := p0) rfl ?_
  refine r_callV (pc := 2) (k := a) (As := [.int p0]) (rest := []) (mc' := 0) (ms' := 0) lk_Pl_15 in_Pl_upperAt se_Pl_upperAt sa rfl d_Pl_has_2 k_Pl_upperAt rfl rfl (Nat.le_of_ble_eq_true rfl) (by decide) (by decide) (Sp.mono h ?_)
  rintro rS1 shS1 S1 ⟨qS1, x2, uS1, h⟩
  subst uS1
  rw [qS1]
  refine r_iload_n (pc := 5) d_Pl_has_5 (x := p1) rfl ?_
  refine r_icmp_eq (pc := 6) d_Pl_has_6 (tgt := 18) (by decide) (fun c3 => ?_) (fun c3 => ?_)
  · replace h := h.1 c3
    refine r_iconst (pc := 18) d_Pl_has_18 (v := 1) (by decide) ?_
    refine r_goto (pc := 19) d_Pl_has_19 (tgt := 23) (by decide) ?_
    exact r_zreturn (pc := 23) d_Pl_has_23 (v := 1) rfl (by decide) rfl (Nat.le_refl _) ⟨rfl, _, rfl, h⟩
  · replace h := h.2 c3
    refine r_aload_n (pc := 9) d_Pl_has_9 (x := a) rfl ?_
    refine r_iload_n (pc := 10) d_Pl_has_10 (x := p0) rfl ?_
    refine r_callV (pc := 11) (k := a) (As := [.int p0]) (rest := []) (mc' := 0) (ms' := 0) lk_Pl_19 in_Pl_lowerAt se_Pl_lowerAt sa rfl d_Pl_has_11 k_Pl_lowerAt rfl rfl (Nat.le_of_ble_eq_true rfl) (by decide) (by decide) (Sp.mono h ?_)
    rintro rS4 shS4 S4 ⟨qS4, x5, uS4, h⟩
    subst uS4
    rw [qS4]
    refine r_iload_n (pc := 14) d_Pl_has_14 (x := p1) rfl ?_
    refine r_icmp_ne (pc := 15) d_Pl_has_15 (tgt := 22) (by decide) (fun c6 => ?_) (fun c6 => ?_)
    · replace h := h.1 c6
      refine r_iconst (pc := 22) d_Pl_has_22 (v := 0) (by decide) ?_
      exact r_zreturn (pc := 23) d_Pl_has_23 (v := 0) rfl (by decide) rfl (Nat.le_refl _) ⟨rfl, _, rfl, h⟩
    · replace h := h.2 c6
      refine r_iconst (pc := 18) d_Pl_has_18 (v := 1) (by decide) ?_
      refine r_goto (pc := 19) d_Pl_has_19 (tgt := 23) (by decide) ?_
      exact r_zreturn (pc := 23) d_Pl_has_23 (v := 1) rfl (by decide) rfl (Nat.le_refl _) ⟨rfl, _, rfl, h⟩
set_option maxRecDepth 4000 in
theorem e_Pl_latestIn {l : Launch} {d : Nat} {sh : aw_SH} {S : aw_S} {P : Int32 → aw_S → Prop} {a : Nat} {p0 : Int32} {p1 : Int32} (sa : sh[a]? = some (0, 3)) (h : AW l m_Pl_latestIn (d + 1) 0 0 (gI sh P) 0 0 4 [.ref a, .int p0, .null, .int (p1 - (1 : Int32))] [] sh S) : Sp l m_Pl_latestIn (d + 1) 0 0 [.ref a, .int p0, .int p1] sh S (gI sh P) := by
  refine Sp.of k_Pl_latestIn (ls := [.ref a, .int p0, .int p1, .null]) rfl (Nat.le_of_ble_eq_true rfl) ?_
  refine r_iload_n (pc := 0) d_Pl_latestIn_0 (x := p1) rfl ?_
  refine r_iconst (pc := 1) d_Pl_latestIn_1 (v := 1) (by decide) ?_
  refine r_isub (pc := 2) d_Pl_latestIn_2 ?_
  refine r_istore_n (pc := 3) (hk := rfl) (hd := d_Pl_latestIn_3) (hi := by decide) (ls2 := [.ref a, .int p0, .int p1, .int (p1 - (1 : Int32))]) (h2 := rfl) ?_
  exact r_weak (ls2 := [.ref a, .int p0, .null, .int (p1 - (1 : Int32))]) ⟨Or.inr rfl, Or.inr rfl, Or.inl rfl, Or.inr rfl, trivial⟩ h
set_option maxRecDepth 4000 in
theorem s_Pl_latestIn_4 {l : Launch} {d : Nat} {sh : aw_SH} {S : aw_S} {P : Int32 → aw_S → Prop} {a : Nat} {i1 : Int32} {i3 : Int32} (sa : sh[a]? = some (0, 3)) (h : ((i3 < 0 → P (-1) S) ∧ (¬ i3 < 0 → ∃ r2, S.2.2 a 0 = some r2 ∧ ∃ n4, sh[r2]? = some (3, n4) ∧ vp_in i3 n4 ∧ ((¬ ((S.1 r2 i3.toNatClampNeg) &&& (7 : Int32)) = i1 → AW l m_Pl_latestIn (d + 1) 0 0 (gI sh P) 0 0 4 [.ref a, .int i1, .null, .int (i3 + (-1))] [] sh S) ∧ (((S.1 r2 i3.toNatClampNeg) &&& (7 : Int32)) = i1 → P i3 S))))) : AW l m_Pl_latestIn (d + 1) 0 0 (gI sh P) 0 0 4 [.ref a, .int i1, .null, .int i3] [] sh S := by
  refine r_iload_n (pc := 4) d_Pl_latestIn_4 (x := i3) rfl ?_
  refine r_if_lt (pc := 5) d_Pl_latestIn_5 (tgt := 29) (by decide) (fun c1 => ?_) (fun c1 => ?_)
  · replace h := h.1 c1
    refine r_iconst (pc := 29) d_Pl_latestIn_29 (v := (-1)) (by decide) ?_
    exact r_ireturn (pc := 30) d_Pl_latestIn_30 rfl rfl (Nat.le_refl _) ⟨rfl, _, rfl, h⟩
  · replace h := h.2 c1
    refine r_aload_n (pc := 8) d_Pl_latestIn_8 (x := a) rfl ?_
    obtain ⟨r2, er2, h⟩ := h
    refine r_getR (pc := 9) d_Pl_latestIn_9 f_Pl_9 sa (Or.inr ⟨_, rfl⟩) (r := r2) er2 ?_
    refine r_iload_n (pc := 12) d_Pl_latestIn_12 (x := i3) rfl ?_
    obtain ⟨n4, s3, h⟩ := h
    obtain ⟨g5, h⟩ := h
    refine r_iald (pc := 13) d_Pl_latestIn_13 s3 g5 ?_
    refine r_bipush (pc := 14) d_Pl_latestIn_14 (v := 7) (by decide) ?_
    refine r_iand (pc := 16) d_Pl_latestIn_16 ?_
    refine r_iload_n (pc := 17) d_Pl_latestIn_17 (x := i1) rfl ?_
    refine r_icmp_ne (pc := 18) d_Pl_latestIn_18 (tgt := 23) (by decide) (fun c6 => ?_) (fun c6 => ?_)
    · replace h := h.1 c6
      refine r_iinc (pc := 23) d_Pl_latestIn_23 (hi := by decide) (x := i3) rfl (v := i3 + (-1)) rfl (ls2 := [.ref a, .int i1, .null, .int (i3 + (-1))]) rfl ?_
      refine r_goto (pc := 26) d_Pl_latestIn_26 (tgt := 4) (by decide) ?_
      exact h
    · replace h := h.2 c6
      refine r_iload_n (pc := 21) d_Pl_latestIn_21 (x := i3) rfl ?_
      exact r_ireturn (pc := 22) d_Pl_latestIn_22 rfl rfl (Nat.le_refl _) ⟨rfl, _, rfl, h⟩
set_option maxRecDepth 4000 in
theorem e_Pl_timesIn {l : Launch} {d : Nat} {sh : aw_SH} {S : aw_S} {P : Int32 → aw_S → Prop} {a : Nat} {p0 : Int32} (sa : sh[a]? = some (0, 3)) (h : AW l m_Pl_timesIn (d + 1) 0 0 (gI sh P) 0 0 4 [.ref a, .int p0, .int 0, .int 0] [] sh S) : Sp l m_Pl_timesIn (d + 1) 0 0 [.ref a, .int p0] sh S (gI sh P) := by
  refine Sp.of k_Pl_timesIn (ls := [.ref a, .int p0, .null, .null]) rfl (Nat.le_of_ble_eq_true rfl) ?_
  refine r_iconst (pc := 0) d_Pl_timesIn_0 (v := 0) (by decide) ?_
  refine r_istore_n (pc := 1) (hk := rfl) (hd := d_Pl_timesIn_1) (hi := by decide) (ls2 := [.ref a, .int p0, .int 0, .null]) (h2 := rfl) ?_
  refine r_iconst (pc := 2) d_Pl_timesIn_2 (v := 0) (by decide) ?_
  refine r_istore_n (pc := 3) (hk := rfl) (hd := d_Pl_timesIn_3) (hi := by decide) (ls2 := [.ref a, .int p0, .int 0, .int 0]) (h2 := rfl) ?_
  exact h
set_option maxRecDepth 4000 in
theorem s_Pl_timesIn_4 {l : Launch} {d : Nat} {sh : aw_SH} {S : aw_S} {P : Int32 → aw_S → Prop} {a : Nat} {i1 : Int32} {i2 : Int32} {i3 : Int32} (sa : sh[a]? = some (0, 3)) (h : (((S.1 a 1) ≤ i3 → P i2 S) ∧ (¬ (S.1 a 1) ≤ i3 → Sp l m_Pl_gapAt d 0 0 [.ref a, .int i3] sh S (gI sh (fun x3 S2 => ((¬ x3 = i1 → AW l m_Pl_timesIn (d + 1) 0 0 (gI sh P) 0 0 4 [.ref a, .int i1, .int i2, .int (i3 + 1)] [] sh S2) ∧ (x3 = i1 → AW l m_Pl_timesIn (d + 1) 0 0 (gI sh P) 0 0 4 [.ref a, .int i1, .int (i2 + 1), .int (i3 + 1)] [] sh S2))))))) : AW l m_Pl_timesIn (d + 1) 0 0 (gI sh P) 0 0 4 [.ref a, .int i1, .int i2, .int i3] [] sh S := by
  refine r_iload_n (pc := 4) d_Pl_timesIn_4 (x := i3) rfl ?_
  refine r_aload_n (pc := 5) d_Pl_timesIn_5 (x := a) rfl ?_
  refine r_getI (pc := 6) d_Pl_timesIn_6 f_Pl_22 sa rfl ?_
  refine r_icmp_ge (pc := 9) d_Pl_timesIn_9 (tgt := 30) (by decide) (fun c1 => ?_) (fun c1 => ?_)
  · replace h := h.1 c1
    refine r_iload_n (pc := 30) d_Pl_timesIn_30 (x := i2) rfl ?_
    exact r_ireturn (pc := 31) d_Pl_timesIn_31 rfl rfl (Nat.le_refl _) ⟨rfl, _, rfl, h⟩
  · replace h := h.2 c1
    refine r_aload_n (pc := 12) d_Pl_timesIn_12 (x := a) rfl ?_
    refine r_iload_n (pc := 13) d_Pl_timesIn_13 (x := i3) rfl ?_
    refine r_callV (pc := 14) (k := a) (As := [.int i3]) (rest := []) (mc' := 0) (ms' := 0) lk_Pl_26 in_Pl_gapAt se_Pl_gapAt sa rfl d_Pl_timesIn_14 k_Pl_gapAt rfl rfl (Nat.le_of_ble_eq_true rfl) (by decide) (by decide) (Sp.mono h ?_)
    rintro rS2 shS2 S2 ⟨qS2, x3, uS2, h⟩
    subst uS2
    rw [qS2]
    refine r_iload_n (pc := 17) d_Pl_timesIn_17 (x := i1) rfl ?_
    refine r_icmp_ne (pc := 18) d_Pl_timesIn_18 (tgt := 24) (by decide) (fun c4 => ?_) (fun c4 => ?_)
    · replace h := h.1 c4
      refine r_iinc (pc := 24) d_Pl_timesIn_24 (hi := by decide) (x := i3) rfl (v := i3 + 1) rfl (ls2 := [.ref a, .int i1, .int i2, .int (i3 + 1)]) rfl ?_
      refine r_goto (pc := 27) d_Pl_timesIn_27 (tgt := 4) (by decide) ?_
      exact h
    · replace h := h.2 c4
      refine r_iinc (pc := 21) d_Pl_timesIn_21 (hi := by decide) (x := i2) rfl (v := i2 + 1) rfl (ls2 := [.ref a, .int i1, .int (i2 + 1), .int i3]) rfl ?_
      refine r_iinc (pc := 24) d_Pl_timesIn_24 (hi := by decide) (x := i3) rfl (v := i3 + 1) rfl (ls2 := [.ref a, .int i1, .int (i2 + 1), .int (i3 + 1)]) rfl ?_
      refine r_goto (pc := 27) d_Pl_timesIn_27 (tgt := 4) (by decide) ?_
      exact h
set_option maxRecDepth 4000 in
theorem e_Pl_add {l : Launch} {d : Nat} {sh : aw_SH} {S : aw_S} {P : aw_S → Prop} {a : Nat} {p0 : Int32} (sa : sh[a]? = some (0, 3)) (h : Sp l m_Pl_insert d 0 0 [.ref a, .int (S.1 a 1), .int p0] sh S (gV sh (fun S1 => P S1))) : Sp l m_Pl_add (d + 1) 0 0 [.ref a, .int p0] sh S (gV sh P) := by
  refine Sp.of k_Pl_add (ls := [.ref a, .int p0]) rfl (Nat.le_of_ble_eq_true rfl) ?_
  refine r_aload_n (pc := 0) d_Pl_add_0 (x := a) rfl ?_
  refine r_aload_n (pc := 1) d_Pl_add_1 (x := a) rfl ?_
  refine r_getI (pc := 2) d_Pl_add_2 f_Pl_22 sa rfl ?_
  refine r_iload_n (pc := 5) d_Pl_add_5 (x := p0) rfl ?_
  refine r_callV (pc := 6) (k := a) (As := [.int (S.1 a 1), .int p0]) (rest := []) (mc' := 0) (ms' := 0) lk_Pl_29 in_Pl_insert se_Pl_insert sa rfl d_Pl_add_6 k_Pl_insert rfl rfl (Nat.le_of_ble_eq_true rfl) (by decide) (by decide) (Sp.mono h ?_)
  rintro rS1 shS1 S1 ⟨qS1, uS1, h⟩
  subst uS1
  rw [qS1]
  exact r_return (pc := 9) d_Pl_add_9 rfl rfl (Nat.le_refl _) ⟨rfl, rfl, h⟩
set_option maxRecDepth 4000 in
theorem e_Pl_copyFrom {l : Launch} {d : Nat} {sh : aw_SH} {S : aw_S} {P : aw_S → Prop} {a : Nat} {p0 : Nat} (sa : sh[a]? = some (0, 3)) (h : sh[p0]? = some (0, 3) ∧ ∃ r2, (aw_uI S a 1 (S.1 p0 1)).2.2 p0 0 = some r2 ∧ ∃ r3, (aw_uI S a 1 (S.1 p0 1)).2.2 a 0 = some r3 ∧ ∃ n5, sh[r2]? = some (3, n5) ∧ ∃ n7, sh[r3]? = some (3, n7) ∧ ¬ (0 : Int32) < 0 ∧ ¬ (0 : Int32) < 0 ∧ ¬ ((aw_uI S a 1 (S.1 p0 1)).1 p0 1 : Int32) < 0 ∧ (0 : Int32).toNatClampNeg + ((aw_uI S a 1 (S.1 p0 1)).1 p0 1 : Int32).toNatClampNeg ≤ n5 ∧ (0 : Int32).toNatClampNeg + ((aw_uI S a 1 (S.1 p0 1)).1 p0 1 : Int32).toNatClampNeg ≤ n7 ∧ P (aw_cpi (aw_uI S a 1 (S.1 p0 1)) r2 r3 0 0 ((aw_uI S a 1 (S.1 p0 1)).1 p0 1))) : Sp l m_Pl_copyFrom (d + 1) 0 0 [.ref a, .ref p0] sh S (gV sh P) := by
  refine Sp.of k_Pl_copyFrom (ls := [.ref a, .ref p0]) rfl (Nat.le_of_ble_eq_true rfl) ?_
  refine r_aload_n (pc := 0) d_Pl_copyFrom_0 (x := a) rfl ?_
  refine r_aload_n (pc := 1) d_Pl_copyFrom_1 (x := p0) rfl ?_
  obtain ⟨s1, h⟩ := h
  refine r_getI (pc := 2) d_Pl_copyFrom_2 f_Pl_22 s1 rfl ?_
  refine r_putI (pc := 5) d_Pl_copyFrom_5 f_Pl_22 sa rfl ?_
  refine r_aload_n (pc := 8) d_Pl_copyFrom_8 (x := p0) rfl ?_
  obtain ⟨r2, er2, h⟩ := h
  refine r_getR (pc := 9) d_Pl_copyFrom_9 f_Pl_9 s1 (Or.inr ⟨_, rfl⟩) (r := r2) er2 ?_
  refine r_iconst (pc := 12) d_Pl_copyFrom_12 (v := 0) (by decide) ?_
  refine r_aload_n (pc := 13) d_Pl_copyFrom_13 (x := a) rfl ?_
  obtain ⟨r3, er3, h⟩ := h
  refine r_getR (pc := 14) d_Pl_copyFrom_14 f_Pl_9 sa (Or.inr ⟨_, rfl⟩) (r := r3) er3 ?_
  refine r_iconst (pc := 17) d_Pl_copyFrom_17 (v := 0) (by decide) ?_
  refine r_aload_n (pc := 18) d_Pl_copyFrom_18 (x := p0) rfl ?_
  refine r_getI (pc := 19) d_Pl_copyFrom_19 f_Pl_22 s1 rfl ?_
  obtain ⟨n5, s4, h⟩ := h
  obtain ⟨n7, s6, h⟩ := h
  obtain ⟨g8, g9, g10, g11, g12, h⟩ := h
  refine r_copyi (pc := 22) d_Pl_copyFrom_22 ck_Pl_33 s4 s6 g8 g9 g10 g11 g12 (Nat.le_of_ble_eq_true rfl) ?_
  exact r_return (pc := 25) d_Pl_copyFrom_25 rfl rfl (Nat.le_refl _) ⟨rfl, rfl, h⟩
