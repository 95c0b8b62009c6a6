/-! cells are made: the list of kinds grows by one, or by what a constructor makes -/
theorem aw_len1 {sh sh1 : aw_SH} {x : Nat × Nat} {n : Nat} (h : sh1 = sh ++ [x]) (hn : sh.length = n) : sh1.length = n + 1 := by subst h; simp [hn]
theorem aw_nw1 {sh sh1 : aw_SH} {x : Nat × Nat} {n : Nat} (h : sh1 = sh ++ [x]) (hn : sh.length = n) : sh1[n]? = some x := by subst h; subst hn; simp
theorem aw_lenL {sh sh1 l : aw_SH} {n : Nat} (h : sh1 = sh ++ l) (hn : sh.length = n) : sh1.length = n + l.length := by subst h; simp [hn]
theorem aw_old {sh sh1 l : aw_SH} {k : Nat} {y : Nat × Nat} (h : sh1 = sh ++ l) (g : sh[k]? = some y) : sh1[k]? = some y := by
  subst h
  rw [List.getElem?_append_left (List.getElem?_eq_some_iff.mp g).1]
  exact g
section AWR
variable {l : Launch} {M : aw_MI} {d mc ms : Nat} {G : aw_G} {ce sl pc : Nat} {ls st : List Value} {sh : aw_SH} {S : aw_S}
theorem r_newV {ci idx n : Nat} (hn : sh.length = n) (hd : decode M.2.1 pc = .ok (.new idx, 3)) (hF : aw_NW M.1.cls idx ci) (h1c : ce + 1 ≤ mc) (h1s : sl + aw_N ci ≤ ms) (kk : ∀ sh1, sh1 = sh ++ [(0, ci)] → AW l M d mc ms G (ce + 1) (sl + aw_N ci) (pc + 3) ls (.ref n :: st) sh1 (aw_z S n)) : AW l M d mc ms G ce sl pc ls st sh S := by
  subst hn
  exact r_new hd hF h1c h1s (kk _ rfl)

theorem r_newaVb {v : Int32} {N n : Nat} (hn : sh.length = n) (hd : decode M.2.1 pc = .ok (.newarray .byte, 2)) (hk : Cond.arrayClass .byte ∈ aw_T) (h0 : ¬ v < 0) (hN : v.toNatClampNeg = N) (hb : N * 8 ≤ 536870912) (h1c : ce + 1 ≤ mc) (h1s : sl + N ≤ ms) (kk : ∀ sh1, sh1 = sh ++ [(1, N)] → AW l M d mc ms G (ce + 1) (sl + N) (pc + 2) ls (.ref n :: st) sh1 (aw_z S n)) : AW l M d mc ms G ce sl pc ls (.int v :: st) sh S := by
  subst hn
  exact r_newab hd hk h0 hN hb h1c h1s (kk _ rfl)
theorem r_newaVz {v : Int32} {N n : Nat} (hn : sh.length = n) (hd : decode M.2.1 pc = .ok (.newarray .boolean, 2)) (hk : Cond.arrayClass .boolean ∈ aw_T) (h0 : ¬ v < 0) (hN : v.toNatClampNeg = N) (hb : N * 8 ≤ 536870912) (h1c : ce + 1 ≤ mc) (h1s : sl + N ≤ ms) (kk : ∀ sh1, sh1 = sh ++ [(2, N)] → AW l M d mc ms G (ce + 1) (sl + N) (pc + 2) ls (.ref n :: st) sh1 (aw_z S n)) : AW l M d mc ms G ce sl pc ls (.int v :: st) sh S := by
  subst hn
  exact r_newaz hd hk h0 hN hb h1c h1s (kk _ rfl)
theorem r_newaVi {v : Int32} {N n : Nat} (hn : sh.length = n) (hd : decode M.2.1 pc = .ok (.newarray .int, 2)) (hk : Cond.arrayClass .int ∈ aw_T) (h0 : ¬ v < 0) (hN : v.toNatClampNeg = N) (hb : N * 8 ≤ 536870912) (h1c : ce + 1 ≤ mc) (h1s : sl + N ≤ ms) (kk : ∀ sh1, sh1 = sh ++ [(3, N)] → AW l M d mc ms G (ce + 1) (sl + N) (pc + 2) ls (.ref n :: st) sh1 (aw_z S n)) : AW l M d mc ms G ce sl pc ls (.int v :: st) sh S := by
  subst hn
  exact r_newai hd hk h0 hN hb h1c h1s (kk _ rfl)
theorem r_newaVl {v : Int32} {N n : Nat} (hn : sh.length = n) (hd : decode M.2.1 pc = .ok (.newarray .long, 2)) (hk : Cond.arrayClass .long ∈ aw_T) (h0 : ¬ v < 0) (hN : v.toNatClampNeg = N) (hb : N * 8 ≤ 536870912) (h1c : ce + 1 ≤ mc) (h1s : sl + N ≤ ms) (kk : ∀ sh1, sh1 = sh ++ [(4, N)] → AW l M d mc ms G (ce + 1) (sl + N) (pc + 2) ls (.ref n :: st) sh1 (aw_z S n)) : AW l M d mc ms G ce sl pc ls (.int v :: st) sh S := by
  subst hn
  exact r_newal hd hk h0 hN hb h1c h1s (kk _ rfl)
theorem r_anewV5 {v : Int32} {N n idx : Nat} (hn : sh.length = n) (hd : decode M.2.1 pc = .ok (.anewarray idx, 3)) (hk : Cond.classLink M.1.cls idx "MaypoleGreen$Tray" ∈ aw_T) (h0 : ¬ v < 0) (hN : v.toNatClampNeg = N) (hb : N * 4 ≤ 536870912) (h1c : ce + 1 ≤ mc) (h1s : sl + N ≤ ms) (kk : ∀ sh1, sh1 = sh ++ [(5, N)] → AW l M d mc ms G (ce + 1) (sl + N) (pc + 3) ls (.ref n :: st) sh1 (aw_z S n)) : AW l M d mc ms G ce sl pc ls (.int v :: st) sh S := by
  subst hn
  exact r_anew5 hd hk h0 hN hb h1c h1s (kk _ rfl)
theorem r_anewV6 {v : Int32} {N n idx : Nat} (hn : sh.length = n) (hd : decode M.2.1 pc = .ok (.anewarray idx, 3)) (hk : Cond.classLink M.1.cls idx "MaypoleGreen$Green" ∈ aw_T) (h0 : ¬ v < 0) (hN : v.toNatClampNeg = N) (hb : N * 4 ≤ 536870912) (h1c : ce + 1 ≤ mc) (h1s : sl + N ≤ ms) (kk : ∀ sh1, sh1 = sh ++ [(6, N)] → AW l M d mc ms G (ce + 1) (sl + N) (pc + 3) ls (.ref n :: st) sh1 (aw_z S n)) : AW l M d mc ms G ce sl pc ls (.int v :: st) sh S := by
  subst hn
  exact r_anew6 hd hk h0 hN hb h1c h1s (kk _ rfl)
end AWR
theorem aw_ac_byte : Cond.arrayClass .byte ∈ aw_T := aw_in 79 (by decide +kernel) rfl
theorem aw_ac_boolean : Cond.arrayClass .boolean ∈ aw_T := aw_in 1411 (by decide +kernel) rfl
theorem aw_ac_int : Cond.arrayClass .int ∈ aw_T := aw_in 80 (by decide +kernel) rfl
theorem aw_ac_long : Cond.arrayClass .long ∈ aw_T := aw_in 55 (by decide +kernel) rfl
