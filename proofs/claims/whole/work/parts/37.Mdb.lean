set_option maxRecDepth 4000 in
theorem e_Md_undo {l : Launch} {d : Nat} {sh : aw_SH} {S : aw_S} {P : Int32 → aw_S → Prop} {a : Nat} (sa : sh[a]? = some (0, 11)) (h : ((¬ (S.1 a 51) = 0 → Sp l m_Md_copies d 0 0 [.ref a, .int (S.1 a 51), .int 0] sh S (gV sh (fun S2 => Sp l m_Md_gives d 0 0 [.ref a, .int ((aw_uI S2 a 51 ((S2.1 a 51) - (1 : Int32))).1 a 51)] sh (aw_uI S2 a 51 ((S2.1 a 51) - (1 : Int32))) (gI sh (fun x4 S3 => P x4 S3))))) ∧ ((S.1 a 51) = 0 → Sp l m_Md_refuse d 0 0 [.ref a, .int 6] sh S (gI sh (fun x6 S5 => P x6 S5))))) : Sp l m_Md_undo (d + 1) 0 0 [.ref a] sh S (gI sh P) := by
  refine Sp.of k_Md_undo (ls := [.ref a]) rfl (Nat.le_of_ble_eq_true rfl) ?_
  refine r_aload_n (pc := 0) d_Md_undo_0 (x := a) rfl ?_
  refine r_getI (pc := 1) d_Md_undo_1 f_Md_523 sa rfl ?_
  refine r_if_ne (pc := 4) d_Md_undo_4 (tgt := 14) (by decide) (fun c1 => ?_) (fun c1 => ?_)
  · replace h := h.1 c1
    refine r_aload_n (pc := 14) d_Md_undo_14 (x := a) rfl ?_
    refine r_aload_n (pc := 15) d_Md_undo_15 (x := a) rfl ?_
    refine r_getI (pc := 16) d_Md_undo_16 f_Md_523 sa rfl ?_
    refine r_iconst (pc := 19) d_Md_undo_19 (v := 0) (by decide) ?_
    refine r_callV (pc := 20) (k := a) (As := [.int (S.1 a 51), .int 0]) (rest := []) (mc' := 0) (ms' := 0) lk_Md_526 in_Md_copies se_Md_copies sa rfl d_Md_undo_20 k_Md_copies rfl rfl (Nat.le_of_ble_eq_true rfl) (by decide) (by decide) (Sp.mono h ?_)
    rintro rS2 shS2 S2 ⟨qS2, uS2, h⟩
    subst uS2
    rw [qS2]
    refine r_aload_n (pc := 23) d_Md_undo_23 (x := a) rfl ?_
    refine r_dup (pc := 24) d_Md_undo_24 rfl ?_
    refine r_getI (pc := 25) d_Md_undo_25 f_Md_523 sa rfl ?_
    refine r_iconst (pc := 28) d_Md_undo_28 (v := 1) (by decide) ?_
    refine r_isub (pc := 29) d_Md_undo_29 ?_
    refine r_putI (pc := 30) d_Md_undo_30 f_Md_523 sa rfl ?_
    refine r_aload_n (pc := 33) d_Md_undo_33 (x := a) rfl ?_
    refine r_aload_n (pc := 34) d_Md_undo_34 (x := a) rfl ?_
    refine r_getI (pc := 35) d_Md_undo_35 f_Md_523 sa rfl ?_
    refine r_callV (pc := 38) (k := a) (As := [.int ((aw_uI S2 a 51 ((S2.1 a 51) - (1 : Int32))).1 a 51)]) (rest := []) (mc' := 0) (ms' := 0) lk_Md_122 in_Md_gives se_Md_gives sa rfl d_Md_undo_38 k_Md_gives rfl rfl (Nat.le_of_ble_eq_true rfl) (by decide) (by decide) (Sp.mono h ?_)
    rintro rS3 shS3 S3 ⟨qS3, x4, uS3, h⟩
    subst uS3
    rw [qS3]
    exact r_ireturn (pc := 41) d_Md_undo_41 rfl rfl (Nat.le_refl _) ⟨rfl, _, rfl, h⟩
  · replace h := h.2 c1
    refine r_aload_n (pc := 7) d_Md_undo_7 (x := a) rfl ?_
    refine r_bipush (pc := 8) d_Md_undo_8 (v := 6) (by decide) ?_
    refine r_callV (pc := 10) (k := a) (As := [.int 6]) (rest := []) (mc' := 0) (ms' := 0) lk_Md_118 in_Md_refuse se_Md_refuse sa rfl d_Md_undo_10 k_Md_refuse rfl rfl (Nat.le_of_ble_eq_true rfl) (by decide) (by decide) (Sp.mono h ?_)
    rintro rS5 shS5 S5 ⟨qS5, x6, uS5, h⟩
    subst uS5
    rw [qS5]
    exact r_ireturn (pc := 13) d_Md_undo_13 rfl rfl (Nat.le_refl _) ⟨rfl, _, rfl, h⟩
