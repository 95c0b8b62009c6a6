theorem nw_Lw_7 : aw_NW "MaypoleGreenLaw" 7 0 := ⟨cR0, cT0, 19, fun k => cY0.getD k .int, rfl, ci0, cy0, rfl, aw_in 22 (by decide +kernel) rfl, aw_in 23 (by decide +kernel) rfl, aw_in 1 (by decide +kernel) rfl, by decide⟩
theorem nw_Lw_10 : aw_NW "MaypoleGreenLaw" 10 11 := ⟨cR11, cT11, 52, fun k => cY11.getD k .int, rfl, ci11, cy11, rfl, aw_in 1244 (by decide +kernel) rfl, aw_in 1245 (by decide +kernel) rfl, aw_in 16 (by decide +kernel) rfl, by decide⟩
theorem lk_Lw_9 : Cond.methodLink "MaypoleGreenLaw" 9 m_Mg_init.1 ∈ aw_T := aw_in 24 (by decide +kernel) rfl
theorem lk_Lw_12 : Cond.methodLink "MaypoleGreenLaw" 12 m_Md_init.1 ∈ aw_T := aw_in 1246 (by decide +kernel) rfl
theorem in_Mg_init : Cond.instanceMethod m_Mg_init.1 ∈ aw_T := aw_in 25 (by decide +kernel) rfl
theorem in_Md_init : Cond.instanceMethod m_Md_init.1 ∈ aw_T := aw_in 1247 (by decide +kernel) rfl
/-! the law from its entry to its loop -/
def sh0 : aw_SH := [(0, 0), (5, 4), (0, 1), (4, 60), (0, 1), (4, 60), (0, 1), (4, 60), (0, 1), (4, 60), (1, 900), (0, 2), (4, 7), (3, 7), (3, 7), (3, 7), (3, 7), (0, 3), (3, 40), (0, 4), (3, 30), (3, 30), (3, 30), (3, 30), (3, 30), (3, 7), (0, 2), (4, 7), (3, 7), (3, 7), (3, 7), (3, 7), (0, 3), (3, 40), (0, 4), (3, 30), (3, 30), (3, 30), (3, 30), (3, 30), (3, 7), (6, 3), (0, 2), (4, 7), (3, 7), (3, 7), (3, 7), (3, 7), (0, 3), (3, 40), (0, 4), (3, 30), (3, 30), (3, 30), (3, 30), (3, 30), (3, 7), (0, 2), (4, 7), (3, 7), (3, 7), (3, 7), (3, 7), (0, 3), (3, 40), (0, 4), (3, 30), (3, 30), (3, 30), (3, 30), (3, 30), (3, 7), (0, 2), (4, 7), (3, 7), (3, 7), (3, 7), (3, 7), (0, 3), (3, 40), (0, 4), (3, 30), (3, 30), (3, 30), (3, 30), (3, 30), (3, 7), (0, 4), (3, 30), (3, 30), (3, 30), (3, 30), (3, 30), (0, 5), (0, 6), (4, 19), (3, 3), (0, 7), (3, 5), (0, 8), (3, 7), (3, 7), (0, 9), (3, 4), (3, 4), (3, 7), (3, 7), (3, 7), (3, 49), (0, 3), (3, 80), (0, 10), (4, 13), (4, 13), (0, 11), (3, 3864), (4, 42), (3, 4), (3, 4), (4, 240), (1, 900), (1, 900), (3, 3), (3, 40), (2, 40), (3, 5040), (3, 5040), (3, 7), (3, 40), (3, 40), (2, 40), (2, 40), (3, 5), (3, 4), (3, 49), (3, 5), (3, 5), (4, 13), (4, 7), (4, 7), (3, 80), (3, 5), (3, 5)]
def S00 : aw_S := E_Md_init (aw_z (E_Mg_init (aw_z aw_S0 0) 0 1) 114) 0 0
set_option maxRecDepth 8000 in
theorem law_entry {l : Launch} {b0 L : Nat} {xs : Nat → Int32} {Inv : aw_S → Prop} (hL : L ≤ 3072) (hOk : LawOk l 0 114 sh0 Inv) (h0 : Inv S00) : AL l b0 L xs 0 0 0 [.float 0, .null, .null, .null] [] [] aw_S0 := by
  refine q_new (pc := 0) d_law_0 nw_Lw_7 (by decide) (Nat.le_of_ble_eq_true rfl) ?_
  refine q_dup (pc := 3) d_law_3 rfl ?_
  refine q_callI (pc := 4) (k := 0) (As := []) (rest := [.ref 0]) (mc' := 113) (ms' := 2860) lk_Lw_9 in_Mg_init rfl rfl d_law_4 k_Mg_init rfl rfl (Nat.le_of_ble_eq_true rfl) (Nat.le_of_ble_eq_true rfl) (Nat.le_of_ble_eq_true rfl) (Sp.mono (mk_Mg_init (d := 193) rfl rfl) ?_)
  rintro _ sh1 _ ⟨rfl, e1, rfl⟩
  have hn1 : sh1.length = 114 := by rw [e1]; rfl
  refine q_astore_n (pc := 7) (hk := rfl) (hd := d_law_7) (hi := by decide) (ls2 := [.float 0, .ref 0, .null, .null]) (h2 := rfl) ?_
  refine q_new (pc := 8) d_law_8 nw_Lw_10 (Nat.le_of_ble_eq_true rfl) (Nat.le_of_ble_eq_true rfl) ?_
  rw [hn1]
  refine q_dup (pc := 11) d_law_11 rfl ?_
  refine q_callI (pc := 12) (k := 114) (As := []) (rest := [.ref 114]) (mc' := 28) (ms' := 16469) lk_Lw_12 in_Md_init rfl rfl d_law_12 k_Md_init rfl rfl (Nat.le_of_ble_eq_true rfl) (Nat.le_of_ble_eq_true rfl) (Nat.le_of_ble_eq_true rfl) (Sp.mono (mk_Md_init (d := 198) (by rw [← hn1]; simp) (by simp [hn1])) ?_)
  rintro _ sh2 _ ⟨rfl, e2, rfl⟩
  have hs : sh2 = sh0 := by rw [e2, e1]; rfl
  subst hs
  refine q_astore_n (pc := 15) (hk := rfl) (hd := d_law_15) (hi := by decide) (ls2 := [.float 0, .ref 0, .ref 114, .null]) (h2 := rfl) ?_
  refine q_iconst (pc := 16) d_law_16 (v := 0) (by decide) ?_
  refine q_istore_n (pc := 17) (hk := rfl) (hd := d_law_17) (hi := by decide) (ls2 := [.float 0, .ref 0, .ref 114, .int 0]) (h2 := rfl) ?_
  exact law_loop (Nat.le_of_ble_eq_true rfl) (Nat.le_of_ble_eq_true rfl) rfl rfl hOk hL (L + 7) 0 S00 h0 (by omega) (by omega)
