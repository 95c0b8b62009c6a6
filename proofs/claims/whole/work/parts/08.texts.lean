/-! the two texts: .float 1, .float 2 stand for them, .float 3, .float 4 for their bytes, .float 5 for the formatter -/
def aw_by (w : UInt32) : List Int32 := if w = 1 then aw_b0 else aw_b1
section AWR
variable {l : Launch} {M : aw_MI} {d mc ms : Nat} {G : aw_G} {ce sl pc : Nat} {ls st : List Value} {sh : aw_SH} {S : aw_S}
theorem r_ldcS {idx : Nat} {w : UInt32} (hd : decode M.2.1 pc = .ok (.ldc idx, 2)) (hw : (M.1.cls = "MaypoleGreen$Tokens" ∧ idx = 15 ∧ w = 1) ∨ (M.1.cls = "MaypoleGreenModel" ∧ idx = 244 ∧ w = 2)) (k : AW l M d mc ms G ce sl (pc + 2) ls (.float w :: st) sh S) : AW l M d mc ms G ce sl pc ls st sh S := fun b D tc xa p e s m args below meth c H locs arr hC hR hz hl hS => by
  obtain ⟨h1, h2, h3, h4, h5, h6, h7, h8⟩ := hC.X
  rcases hw with ⟨g1, g2, g3⟩ | ⟨g1, g2, g3⟩
  · subst g3; subst g2
    exact va_ldcS hC.ex hC.bt (by rw [← g1]; exact hC.ow) h5 hd (k b D tc xa p e s m args below meth c H locs arr hC hR hz hl hS)
  · subst g3; subst g2
    exact va_ldcS hC.ex hC.bt (by rw [← g1]; exact hC.ow) h6 hd (k b D tc xa p e s m args below meth c H locs arr hC hR hz hl hS)
theorem aw_slV : Cond.fieldLink "java/lang/String" 9 "java/lang/String" "value" "[B" ∈ aw_T := aw_in 1995 (by decide +kernel) rfl
theorem r_strV {w : UInt32} (hd : decode M.2.1 pc = .ok (.getfield 9, 3)) (hw : w = 1 ∨ w = 2) (hm : M.1.cls = "java/lang/String") (k : AW l M d mc ms G ce sl (pc + 3) ls (.float (w + 2) :: st) sh S) : AW l M d mc ms G ce sl pc ls (.float w :: st) sh S := fun b D tc xa p e s m args below meth c H locs arr hC hR hz hl hS => by
  obtain ⟨h1, h2, h3, h4, h5, h6, h7, h8⟩ := hC.X
  rcases hw with rfl | rfl
  · exact vk_getf hC.ex hC.bt (h4.1 0 (by decide)).2.2.1 hS (by rw [← hm]; exact hC.ow) (hC.ts _ aw_slV) (fun x h => h) hd (k b D tc xa p e s m args below meth c H locs arr hC hR hz hl hS)
  · exact vk_getf hC.ex hC.bt (h4.1 1 (by decide)).2.2.1 hS (by rw [← hm]; exact hC.ow) (hC.ts _ aw_slV) (fun x h => h) hd (k b D tc xa p e s m args below meth c H locs arr hC hR hz hl hS)
theorem aw_slC : Cond.fieldLink "java/lang/String" 15 "java/lang/String" "coder" "B" ∈ aw_T := aw_in 1996 (by decide +kernel) rfl
theorem r_strC {w : UInt32} (hd : decode M.2.1 pc = .ok (.getfield 15, 3)) (hw : w = 1 ∨ w = 2) (hm : M.1.cls = "java/lang/String") (k : AW l M d mc ms G ce sl (pc + 3) ls (.int 0 :: st) sh S) : AW l M d mc ms G ce sl pc ls (.float w :: st) sh S := fun b D tc xa p e s m args below meth c H locs arr hC hR hz hl hS => by
  obtain ⟨h1, h2, h3, h4, h5, h6, h7, h8⟩ := hC.X
  rcases hw with rfl | rfl
  · exact vk_getf hC.ex hC.bt (h4.1 0 (by decide)).2.1 hS (by rw [← hm]; exact hC.ow) (hC.ts _ aw_slC) (fun x h => h) hd (k b D tc xa p e s m args below meth c H locs arr hC hR hz hl hS)
  · exact vk_getf hC.ex hC.bt (h4.1 1 (by decide)).2.1 hS (by rw [← hm]; exact hC.ow) (hC.ts _ aw_slC) (fun x h => h) hd (k b D tc xa p e s m args below meth c H locs arr hC hR hz hl hS)
theorem r_strL {w : UInt32} (hd : decode M.2.1 pc = .ok (.arraylength, 1)) (hw : w = 1 ∨ w = 2) (k : AW l M d mc ms G ce sl (pc + 1) ls (.int (nI (aw_by w).length) :: st) sh S) : AW l M d mc ms G ce sl pc ls (.float (w + 2) :: st) sh S := fun b D tc xa p e s m args below meth c H locs arr hC hR hz hl hS => by
  obtain ⟨h1, h2, h3, h4, h5, h6, h7, h8⟩ := hC.X
  rcases hw with rfl | rfl
  · exact va_tlen hC.ex hC.bt (h4.1 0 (by decide)).2.2.2 hS rfl hd (k b D tc xa p e s m args below meth c H locs arr hC hR hz hl hS)
  · exact va_tlen hC.ex hC.bt (h4.1 1 (by decide)).2.2.2 hS rfl hd (k b D tc xa p e s m args below meth c H locs arr hC hR hz hl hS)
theorem r_strB {w : UInt32} {i : Int32} (hd : decode M.2.1 pc = .ok (.baload, 1)) (hw : w = 1 ∨ w = 2) (hi : vp_in i (aw_by w).length) (k : AW l M d mc ms G ce sl (pc + 1) ls (.int ((aw_by w).getD i.toNatClampNeg 0) :: st) sh S) : AW l M d mc ms G ce sl pc ls (.int i :: .float (w + 2) :: st) sh S := fun b D tc xa p e s m args below meth c H locs arr hC hR hz hl hS => by
  obtain ⟨h1, h2, h3, h4, h5, h6, h7, h8⟩ := hC.X
  rcases hw with rfl | rfl
  · exact va_tb hC.ex hC.bt (h4.1 0 (by decide)).2.2.2 hS hi rfl hd (k b D tc xa p e s m args below meth c H locs arr hC hR hz hl hS)
  · exact va_tb hC.ex hC.bt (h4.1 1 (by decide)).2.2.2 hS hi rfl hd (k b D tc xa p e s m args below meth c H locs arr hC hR hz hl hS)
theorem r_gsC (hd : decode M.2.1 pc = .ok (.getstatic 38, 3)) (hm : M.1.cls = "java/lang/String") (k : AW l M d mc ms G ce sl (pc + 3) ls (.int 1 :: st) sh S) : AW l M d mc ms G ce sl pc ls st sh S := fun b D tc xa p e s m args below meth c H locs arr hC hR hz hl hS => by
  obtain ⟨h1, h2, h3, h4, h5, h6, h7, h8⟩ := hC.X
  exact va_gets hC.ex hC.bt h7 hS (by rw [← hm]; exact hC.ow) (hC.ts _ (aw_in 208 (by decide +kernel) rfl : Cond.fieldLink "java/lang/String" 38 "java/lang/String" "COMPACT_STRINGS" "Z" ∈ aw_T)) (fun x h => h) hd (k b D tc xa p e s m args below meth c H locs arr hC hR hz hl hS)
theorem r_gsF (hd : decode M.2.1 pc = .ok (.getstatic 1053, 3)) (hm : M.1.cls = "java/lang/String") (k0 : AW l M d mc ms G ce sl (pc + 3) ls (.null :: st) sh S) (k : AW l M d mc ms G ce sl (pc + 3) ls (.float 5 :: st) sh S) : AW l M d mc ms G ce sl pc ls st sh S := fun b D tc xa p e s m args below meth c H locs arr hC hR hz hl hS => by
  obtain ⟨h1, h2, h3, h4, h5, h6, h7, h8⟩ := hC.X
  rcases h8 with h8 | h8
  · exact va_gets hC.ex hC.bt h8 hS (by rw [← hm]; exact hC.ow) (hC.ts _ (aw_in 224 (by decide +kernel) rfl : Cond.fieldLink "java/lang/String" 1053 "jdk/internal/util/Preconditions" "SIOOBE_FORMATTER" "Ljava/util/function/BiFunction;" ∈ aw_T)) (fun x h => h) hd (k0 b D tc xa p e s m args below meth c H locs arr hC hR hz hl hS)
  · exact va_gets hC.ex hC.bt h8 hS (by rw [← hm]; exact hC.ow) (hC.ts _ (aw_in 224 (by decide +kernel) rfl : Cond.fieldLink "java/lang/String" 1053 "jdk/internal/util/Preconditions" "SIOOBE_FORMATTER" "Ljava/util/function/BiFunction;" ∈ aw_T)) (fun x h => h) hd (k b D tc xa p e s m args below meth c H locs arr hC hR hz hl hS)
theorem r_callX {N : aw_MI} {n idx mc' ms' k : Nat} {As rest : List Value} {w : UInt32} (hlk : Cond.methodLink M.1.cls idx N.1 ∈ aw_T) (hin : Cond.instanceMethod N.1 ∈ aw_T) (hse : Cond.selects N.1.cls N.1 N.1 ∈ aw_T) (hw : w = 1 ∨ w = 2) (hci : N.1.cls = "java/lang/String") (hd : decode M.2.1 pc = .ok (.invokevirtual idx, 3)) (hk : aw_K N n) (hst : st = As.reverse ++ .float w :: rest) (hn : As.length = n) (hrs : (rest.map fun v => v.category).sum ≤ 8) (hc : ce + mc' ≤ mc) (hs : sl + ms' ≤ ms) (kk : Sp l N d mc' ms' (.float w :: As) sh S (fun r sh' S' => AW l M (d + 1) mc ms G (ce + mc') (sl + ms') (pc + 3) ls (r.toList ++ rest) sh' S')) : AW l M (d + 1) mc ms G ce sl pc ls st sh S := fun b D tc xa p e s m args below meth c H locs arr hC hR hz hl hS => aw_sz hR hz hC.bs hS fun hH => by
  subst hst
  refine aw_run (rest := rest) (va_runV (C := N.1.cls) (b := xa w.toNat) (As := As.map (aw_cv b xa)) (rest := rest.map (aw_cv b xa)) ⟨hC.ex, hC.bt, hC.ml, hC.ow, hC.ts⟩ (kk b D tc xa) ⟨callB_of n hC.ts (fun w hw => (List.mem_cons.mp hw).elim (fun q => by rw [q]; exact aw_good _ hk.1) (fun q => aw_good w q)) rfl rfl rfl (hC.ts _ hk.2.1) (hC.ts _ hlk) hk.2.2.1 ⟨Nat.le_refl _, by have := hk.2.2.2.1; show 8 + (_ + 11) + (64 * d + 64) ≤ 64 * (d + 1) + 64; omega⟩, hC.ts _ hin, hC.ts _ hse⟩ ⟨fun a U g mk q => ⟨q.1, q.2.1, va_K.moved (u := U) (U := U.calling g mk a) (Vm.Alike.refl U.vm) q.2.2.1, q.2.2.2.1, q.2.2.2.2.same rfl rfl⟩, by rw [hci]; exact (by rcases hw with rfl | rfl; exact vk_recv hC.X.2.2.2.1 (i := 0) (by decide) hS; exact vk_recv hC.X.2.2.2.1 (i := 1) (by decide) hS), fun U hU hW => ⟨rfl, by rw [hU]; exact hR, va_K.moved hW.alike hC.K, by rw [hU, hH], hC.X.mv hW (fun q h1 h2 => by rw [hU]; exact hS.2.1 q h1 h2)⟩⟩ rfl (by rw [List.length_map]; exact hn) hl.1 (by show List.map _ _ = _; simp [aw_cv]) (lv_room (by rw [aw_cv_sum]; exact hrs)) hd ⟨hc, hs⟩) hC hH hz hl hS (fun r sh' S' h => h)
end AWR
