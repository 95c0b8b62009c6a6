/-! new cells, ends, calls, the start -/
theorem aw_newR {b : Nat} {D : va_G} {tc : Nat → ClassId} {sh : aw_SH} {S : aw_S} {x : Nat × Nat} {q : Nat} {H1 : Heap} {ev : va_E} (hP : va_P D aw_cl (aw_W b tc sh S ++ [(q, ev)]) H1) (hq : q = b + sh.length) (he : ev = aw_E b tc x (fun _ => 0) (fun _ => 0) (fun _ => none)) : aw_R b D tc (sh ++ [x]) (aw_z S sh.length) H1 := by
  show va_P _ _ _ _
  rw [aw_Wpush, ← hq, ← he]
  exact hP
section AWR
variable {l : Launch} {M : aw_MI} {d mc ms : Nat} {G : aw_G} {ce sl pc : Nat} {ls st : List Value} {sh : aw_SH} {S : aw_S}
theorem r_new {ci idx : Nat} (hd : decode M.2.1 pc = .ok (.new idx, 3)) (hF : aw_NW M.1.cls idx ci) (h1c : ce + 1 ≤ mc) (h1s : sl + aw_N ci ≤ ms) (kk : AW l M d mc ms G (ce + 1) (sl + aw_N ci) (pc + 3) ls (.ref sh.length :: st) (sh ++ [(0, ci)]) (aw_z S sh.length)) : AW l M d mc ms G ce sl pc ls st sh S := fun b D tc xa p e s m args below meth c H locs arr hC hR hz hl hS => by
  obtain ⟨C, T, N, ty0, h1, h2, h3, h4, h5, h6, h7, h8⟩ := hF
  subst h4
  refine va_new (ci := ci) (fs := aw_fs b ci (fun _ => 0) (fun _ => 0) (fun _ => none)) hC.ex hC.bt hC.ts h2 ty0 h3 hC.ow (hC.ts _ h5) (hC.ts _ h6) (hC.ts _ h7) hC.K hR aw_D hS (fun q h => Nat.le_trans hC.bs h) h1 (fun j hj => ?_) h1c h1s hd (fun q H1 hP' hD' hS' => aw_le fun hle => ?_)
  · rw [aw_def (h8 j hj).2 b, (h8 j hj).1]
    unfold vp_V
    rw [List.getD_eq_getElem?_getD, aw_fs_at hj]
    rfl
  · have hq := aw_q hP' hD' (by omega)
    subst hq
    exact kk b D tc xa p e s m args below meth c H1 locs arr hC (aw_newR (x := (0, ci)) hP' rfl rfl) (by simp; omega) hl hS'
theorem r_newab {n : Int32} {N : Nat} (hd : decode M.2.1 pc = .ok (.newarray .byte, 2)) (hk : Cond.arrayClass .byte ∈ aw_T) (hn : ¬ n < 0) (hN : n.toNatClampNeg = N) (hb : N * 8 ≤ 536870912) (h1c : ce + 1 ≤ mc) (h1s : sl + N ≤ ms) (kk : AW l M d mc ms G (ce + 1) (sl + N) (pc + 2) ls (.ref sh.length :: st) (sh ++ [(1, N)]) (aw_z S sh.length)) : AW l M d mc ms G ce sl pc ls (.int n :: st) sh S := fun b D tc xa p e s m args below meth c H locs arr hC hR hz hl hS => by
  refine va_newa (atype := .byte) (ty := .byte) (a0 := (N, .inl (fun _ => 0))) hC.ex hC.bt (hC.ts _ hk) rfl hC.K hR aw_D hS (fun q h => Nat.le_trans hC.bs h) (fun cA => rfl) hn hN (Nat.le_trans (Nat.mul_le_mul_left N (show componentBytes .byte ≤ 8 by decide)) hb) h1c h1s hd (fun q cA H1 hK' hP' hD' hS' => aw_le fun hle => ?_)
  have hq := aw_q hP' hD' (by omega)
  have hcA : cA = tc 0 := by
    have e1 := (hK'.2 6 (cA, .byte) rfl).2
    have e2 := (hC.K.2 0 (tc 0, .byte) rfl).2
    exact Option.some.inj (Eq.trans (Eq.symm e1) e2)
  subst hq
  subst hcA
  exact kk b D tc xa p e s m args below meth c H1 locs arr hC (aw_newR (x := (1, N)) hP' rfl rfl) (by simp; omega) hl hS'
theorem r_newaz {n : Int32} {N : Nat} (hd : decode M.2.1 pc = .ok (.newarray .boolean, 2)) (hk : Cond.arrayClass .boolean ∈ aw_T) (hn : ¬ n < 0) (hN : n.toNatClampNeg = N) (hb : N * 8 ≤ 536870912) (h1c : ce + 1 ≤ mc) (h1s : sl + N ≤ ms) (kk : AW l M d mc ms G (ce + 1) (sl + N) (pc + 2) ls (.ref sh.length :: st) (sh ++ [(2, N)]) (aw_z S sh.length)) : AW l M d mc ms G ce sl pc ls (.int n :: st) sh S := fun b D tc xa p e s m args below meth c H locs arr hC hR hz hl hS => by
  refine va_newa (atype := .boolean) (ty := .boolean) (a0 := (N, .inl (fun _ => 0))) hC.ex hC.bt (hC.ts _ hk) rfl hC.K hR aw_D hS (fun q h => Nat.le_trans hC.bs h) (fun cA => rfl) hn hN (Nat.le_trans (Nat.mul_le_mul_left N (show componentBytes .boolean ≤ 8 by decide)) hb) h1c h1s hd (fun q cA H1 hK' hP' hD' hS' => aw_le fun hle => ?_)
  have hq := aw_q hP' hD' (by omega)
  have hcA : cA = tc 1 := by
    have e1 := (hK'.2 6 (cA, .boolean) rfl).2
    have e2 := (hC.K.2 1 (tc 1, .boolean) rfl).2
    exact Option.some.inj (Eq.trans (Eq.symm e1) e2)
  subst hq
  subst hcA
  exact kk b D tc xa p e s m args below meth c H1 locs arr hC (aw_newR (x := (2, N)) hP' rfl rfl) (by simp; omega) hl hS'
theorem r_newai {n : Int32} {N : Nat} (hd : decode M.2.1 pc = .ok (.newarray .int, 2)) (hk : Cond.arrayClass .int ∈ aw_T) (hn : ¬ n < 0) (hN : n.toNatClampNeg = N) (hb : N * 8 ≤ 536870912) (h1c : ce + 1 ≤ mc) (h1s : sl + N ≤ ms) (kk : AW l M d mc ms G (ce + 1) (sl + N) (pc + 2) ls (.ref sh.length :: st) (sh ++ [(3, N)]) (aw_z S sh.length)) : AW l M d mc ms G ce sl pc ls (.int n :: st) sh S := fun b D tc xa p e s m args below meth c H locs arr hC hR hz hl hS => by
  refine va_newa (atype := .int) (ty := .int) (a0 := (N, .inl (fun _ => 0))) hC.ex hC.bt (hC.ts _ hk) rfl hC.K hR aw_D hS (fun q h => Nat.le_trans hC.bs h) (fun cA => rfl) hn hN (Nat.le_trans (Nat.mul_le_mul_left N (show componentBytes .int ≤ 8 by decide)) hb) h1c h1s hd (fun q cA H1 hK' hP' hD' hS' => aw_le fun hle => ?_)
  have hq := aw_q hP' hD' (by omega)
  have hcA : cA = tc 2 := by
    have e1 := (hK'.2 6 (cA, .int) rfl).2
    have e2 := (hC.K.2 2 (tc 2, .int) rfl).2
    exact Option.some.inj (Eq.trans (Eq.symm e1) e2)
  subst hq
  subst hcA
  exact kk b D tc xa p e s m args below meth c H1 locs arr hC (aw_newR (x := (3, N)) hP' rfl rfl) (by simp; omega) hl hS'
theorem r_newal {n : Int32} {N : Nat} (hd : decode M.2.1 pc = .ok (.newarray .long, 2)) (hk : Cond.arrayClass .long ∈ aw_T) (hn : ¬ n < 0) (hN : n.toNatClampNeg = N) (hb : N * 8 ≤ 536870912) (h1c : ce + 1 ≤ mc) (h1s : sl + N ≤ ms) (kk : AW l M d mc ms G (ce + 1) (sl + N) (pc + 2) ls (.ref sh.length :: st) (sh ++ [(4, N)]) (aw_z S sh.length)) : AW l M d mc ms G ce sl pc ls (.int n :: st) sh S := fun b D tc xa p e s m args below meth c H locs arr hC hR hz hl hS => by
  refine va_newa (atype := .long) (ty := .long) (a0 := (N, .inr (.inl (fun _ => 0)))) hC.ex hC.bt (hC.ts _ hk) rfl hC.K hR aw_D hS (fun q h => Nat.le_trans hC.bs h) (fun cA => rfl) hn hN (Nat.le_trans (Nat.mul_le_mul_left N (show componentBytes .long ≤ 8 by decide)) hb) h1c h1s hd (fun q cA H1 hK' hP' hD' hS' => aw_le fun hle => ?_)
  have hq := aw_q hP' hD' (by omega)
  have hcA : cA = tc 3 := by
    have e1 := (hK'.2 6 (cA, .long) rfl).2
    have e2 := (hC.K.2 3 (tc 3, .long) rfl).2
    exact Option.some.inj (Eq.trans (Eq.symm e1) e2)
  subst hq
  subst hcA
  exact kk b D tc xa p e s m args below meth c H1 locs arr hC (aw_newR (x := (4, N)) hP' rfl rfl) (by simp; omega) hl hS'
theorem r_anew5 {n : Int32} {N idx : Nat} (hd : decode M.2.1 pc = .ok (.anewarray idx, 3)) (hk : Cond.classLink M.1.cls idx "MaypoleGreen$Tray" ∈ aw_T) (hn : ¬ n < 0) (hN : n.toNatClampNeg = N) (hb : N * 4 ≤ 536870912) (h1c : ce + 1 ≤ mc) (h1s : sl + N ≤ ms) (kk : AW l M d mc ms G (ce + 1) (sl + N) (pc + 3) ls (.ref sh.length :: st) (sh ++ [(5, N)]) (aw_z S sh.length)) : AW l M d mc ms G ce sl pc ls (.int n :: st) sh S := fun b D tc xa p e s m args below meth c H locs arr hC hR hz hl hS => by
  refine va_newq (C := "MaypoleGreen$Tray") hC.ex hC.bt hC.ow (hC.ts _ hk) hC.X.2.1 hC.K hR aw_D hS (fun q h => Nat.le_trans hC.bs h) hn hN hb h1c h1s hd (fun q cA H1 hK' hP' hD' hS' => aw_le fun hle => ?_)
  have hq := aw_q hP' hD' (by omega)
  have hcA : cA = tc 4 := by
    obtain ⟨_, _, -, -, -, e1⟩ := (hK'.2 6 (cA, .object "MaypoleGreen$Tray") rfl).2
    obtain ⟨_, _, -, -, -, e2⟩ := (hC.K.2 4 (tc 4, .object "MaypoleGreen$Tray") rfl).2
    exact Option.some.inj (Eq.trans (Eq.symm e1) e2)
  subst hq
  subst hcA
  exact kk b D tc xa p e s m args below meth c H1 locs arr hC (aw_newR (x := (5, N)) hP' rfl rfl) (by simp; omega) hl hS'
theorem r_anew6 {n : Int32} {N idx : Nat} (hd : decode M.2.1 pc = .ok (.anewarray idx, 3)) (hk : Cond.classLink M.1.cls idx "MaypoleGreen$Green" ∈ aw_T) (hn : ¬ n < 0) (hN : n.toNatClampNeg = N) (hb : N * 4 ≤ 536870912) (h1c : ce + 1 ≤ mc) (h1s : sl + N ≤ ms) (kk : AW l M d mc ms G (ce + 1) (sl + N) (pc + 3) ls (.ref sh.length :: st) (sh ++ [(6, N)]) (aw_z S sh.length)) : AW l M d mc ms G ce sl pc ls (.int n :: st) sh S := fun b D tc xa p e s m args below meth c H locs arr hC hR hz hl hS => by
  refine va_newq (C := "MaypoleGreen$Green") hC.ex hC.bt hC.ow (hC.ts _ hk) hC.X.2.2.1 hC.K hR aw_D hS (fun q h => Nat.le_trans hC.bs h) hn hN hb h1c h1s hd (fun q cA H1 hK' hP' hD' hS' => aw_le fun hle => ?_)
  have hq := aw_q hP' hD' (by omega)
  have hcA : cA = tc 5 := by
    obtain ⟨_, _, -, -, -, e1⟩ := (hK'.2 6 (cA, .object "MaypoleGreen$Green") rfl).2
    obtain ⟨_, _, -, -, -, e2⟩ := (hC.K.2 5 (tc 5, .object "MaypoleGreen$Green") rfl).2
    exact Option.some.inj (Eq.trans (Eq.symm e1) e2)
  subst hq
  subst hcA
  exact kk b D tc xa p e s m args below meth c H1 locs arr hC (aw_newR (x := (6, N)) hP' rfl rfl) (by simp; omega) hl hS'
theorem r_ireturn {v : Int32} (hd : decode M.2.1 pc = .ok (.ireturn, 1)) (hr : M.2.2.2 = some .int) (hc : ce = mc) (hs : sl ≤ ms) (hg : G (some (.int v)) sh S) : AW l M d mc ms G ce sl pc ls [.int v] sh S := fun b D tc xa p e s m args below meth c H locs arr hC hR hz hl hS => by
  subst hc
  exact W.widen (Nat.le_refl _) hs (W.iret hC.ex hC.bt (hC.rt.trans hr) (fun t ht _ => ⟨⟨_, sh, S, hg, rfl, by rw [ht]; exact hR, hz⟩, hS.F ht⟩) hS.2.2 hd hC.lk)
theorem r_lreturn {v : Int64} (hd : decode M.2.1 pc = .ok (.lreturn, 1)) (hr : M.2.2.2 = some .long) (hc : ce = mc) (hs : sl ≤ ms) (hg : G (some (.long v)) sh S) : AW l M d mc ms G ce sl pc ls [.long v] sh S := fun b D tc xa p e s m args below meth c H locs arr hC hR hz hl hS => by
  subst hc
  exact W.widen (Nat.le_refl _) hs (W.lret hC.ex hC.bt (hC.rt.trans hr) (fun t ht _ => ⟨⟨_, sh, S, hg, rfl, by rw [ht]; exact hR, hz⟩, hS.F ht⟩) hS.2.2 hd hC.lk)
theorem r_zreturn {v : Int32} {ty : FieldType} (hd : decode M.2.1 pc = .ok (.ireturn, 1)) (hr : M.2.2.2 = some ty) (hn : narrow ty (.int v) = .int v) (hc : ce = mc) (hs : sl ≤ ms) (hg : G (some (.int v)) sh S) : AW l M d mc ms G ce sl pc ls [.int v] sh S := fun b D tc xa p e s m args below meth c H locs arr hC hR hz hl hS => by
  subst hc
  exact W.widen (Nat.le_refl _) hs (W.zret hC.ex hC.bt (hC.rt.trans hr) hn (fun t ht _ => ⟨⟨_, sh, S, hg, rfl, by rw [ht]; exact hR, hz⟩, hS.F ht⟩) hS.2.2 hd hC.lk)
theorem r_return (hd : decode M.2.1 pc = .ok (.return_, 1)) (hr : M.2.2.2 = none) (hc : ce = mc) (hs : sl ≤ ms) (hg : G none sh S) : AW l M d mc ms G ce sl pc ls [] sh S := fun b D tc xa p e s m args below meth c H locs arr hC hR hz hl hS => by
  subst hc
  exact W.widen (Nat.le_refl _) hs (W.vret hC.ex hC.bt (hC.rt.trans hr) (fun t ht _ => ⟨⟨_, sh, S, hg, rfl, by rw [ht]; exact hR, hz⟩, hS.F ht⟩) hS.2.2 hd hC.lk)
theorem r_areturn {v : Nat} {q : String} (hd : decode M.2.1 pc = .ok (.areturn, 1)) (hr : M.2.2.2 = some (.object q)) (hc : ce = mc) (hs : sl ≤ ms) (hg : G (some (.ref v)) sh S) : AW l M d mc ms G ce sl pc ls [.ref v] sh S := fun b D tc xa p e s m args below meth c H locs arr hC hR hz hl hS => by
  subst hc
  exact W.widen (Nat.le_refl _) hs (W.aret hC.ex hC.bt (hC.rt.trans hr) (Or.inl ⟨_, rfl⟩) (Or.inr ⟨_, rfl⟩) (fun t ht _ => ⟨⟨_, sh, S, hg, rfl, by rw [ht]; exact hR, hz⟩, hS.F ht⟩) hS.2.2 hd hC.lk)
theorem aw_run {mc' ms' : Nat} {G' : aw_G} {a : Array Value} {rest stk : List Value} {b : Nat} {D : va_G} {tc : Nat → ClassId} {xa : Nat → Nat} {p : Program} {e : Env} {s : State} {m : MethodId} {args : Array Value} {below : List Frame} {meth : Method} {c : Code} {H : Heap} {locs : List Loc} {arr : Array Slot} (hr : va_Run p l e (aw_rm d mc ms) s m args below meth c H locs ce sl mc' ms' (F0 m pc arr stk) (rest.map (aw_cv b xa)) (aw_Q b D tc xa mc' G' a) (fun q => b ≤ q)) (hC : aw_C M b D tc xa p s m args meth c) (hH : H.size = b + sh.length) (hz : b + sh.length = s.heap.size + ce) (hl : aw_L b xa M.2.2.1 arr ls) (hS : va_S (fun q => b ≤ q) s.heap H locs) (k : ∀ (r : Option Value) (sh' : aw_SH) (S' : aw_S), G' r sh' S' → AW l M d mc ms G (ce + mc') (sl + ms') (pc + 3) ls (r.toList ++ rest) sh' S') : W p l e (aw_rm d mc ms) s m args below meth c H locs ce sl (MQ below (aw_Q b D tc xa mc G) args s mc ms (fun q => b ≤ q)) (F0 m pc arr stk) := by
  intro T hT X
  obtain ⟨v, st₀, t, T', L, h0, X', hL, e1, e2, ⟨⟨r, sh', S', hg, ho, hR', hz'⟩, hF⟩, st⟩ := hr T hT X
  have hv : v = r.map (aw_cv b xa) := Outcome.returned.inj ho
  subst hv
  have hF1 := hF.1
  have hF2 := hF.2
  rw [h0] at hF1 hF2 hz'
  have hw := k r sh' S' hg b D tc xa p e s m args below meth c T'.heap (locs ++ L) arr hC (by rw [e1]; exact hR') (by omega) hl ⟨by rw [e1]; exact Nat.le_trans hS.1 hF1, fun q h1 h2 => by rw [e1, hF2 q (Nat.lt_of_lt_of_le h1 hS.1) h2]; exact hS.2.1 q h1 h2, fun q hq => by
    rcases List.mem_append.mp hq with h | h
    · exact hS.2.2 q h
    · exact hL q h⟩
  have es : (r.toList ++ rest).map (aw_cv b xa) = (r.map (aw_cv b xa)).toList ++ rest.map (aw_cv b xa) := by
    cases r <;> simp
  rw [es] at hw
  obtain ⟨t2, a1, b1⟩ := hw T' rfl X'
  exact ⟨t2, st t2 a1, b1⟩
theorem r_callV {N : aw_MI} {n idx mc' ms' k : Nat} {As rest : List Value} {ci : Nat} {T : u_T} {NF : Nat} (hlk : Cond.methodLink M.1.cls idx N.1 ∈ aw_T) (hin : Cond.instanceMethod N.1 ∈ aw_T) (hse : Cond.selects N.1.cls N.1 N.1 ∈ aw_T) (hsh : sh[k]? = some (0, ci)) (hci : aw_cl[ci]? = some (N.1.cls, T, NF)) (hd : decode M.2.1 pc = .ok (.invokevirtual idx, 3)) (hk : aw_K N n) (hst : st = As.reverse ++ .ref k :: rest) (hn : As.length = n) (hrs : (rest.map fun v => v.category).sum ≤ 8) (hc : ce + mc' ≤ mc) (hs : sl + ms' ≤ ms) (kk : Sp l N d mc' ms' (.ref k :: As) sh S (fun r sh' S' => AW l M (d + 1) mc ms G (ce + mc') (sl + ms') (pc + 3) ls (r.toList ++ rest) sh' S')) : AW l M (d + 1) mc ms G ce sl pc ls st sh S := fun b D tc xa p e s m args below meth c H locs arr hC hR hz hl hS => aw_sz hR hz hC.bs hS fun hH => by
  subst hst
  refine aw_run (rest := rest) (va_runV (C := N.1.cls) (b := b + k) (As := As.map (aw_cv b xa)) (rest := rest.map (aw_cv b xa)) ⟨hC.ex, hC.bt, hC.ml, hC.ow, hC.ts⟩ (kk b D tc xa) ⟨callB_of n hC.ts (fun w hw => (List.mem_cons.mp hw).elim (fun q => by rw [q]; exact aw_good _ hk.1) (fun q => aw_good w q)) rfl rfl rfl (hC.ts _ hk.2.1) (hC.ts _ hlk) hk.2.2.1 ⟨Nat.le_refl _, by have := hk.2.2.2.1; show 8 + (_ + 11) + (64 * d + 64) ≤ 64 * (d + 1) + 64; omega⟩, hC.ts _ hin, hC.ts _ hse⟩ ⟨fun a U g mk q => ⟨q.1, q.2.1, va_K.moved (u := U) (U := U.calling g mk a) (Vm.Alike.refl U.vm) q.2.2.1, q.2.2.2.1, q.2.2.2.2.same rfl rfl⟩, va_recv hC.K hR hci (aw_get hsh), fun U hU hW => ⟨rfl, by rw [hU]; exact hR, va_K.moved hW.alike hC.K, by rw [hU, hH], hC.X.mv hW (fun q h1 h2 => by rw [hU]; exact hS.2.1 q h1 h2)⟩⟩ rfl (by rw [List.length_map]; exact hn) hl.1 (by show List.map _ _ = _; simp [aw_cv]) (lv_room (by rw [aw_cv_sum]; exact hrs)) hd ⟨hc, hs⟩) hC hH hz hl hS (fun r sh' S' h => h)
theorem r_callVN {N : aw_MI} {n idx mc' ms' k : Nat} {As rest : List Value} {ci : Nat} {T : u_T} {NF : Nat} {host : String} (hlk : Cond.methodLinkNest M.1.cls idx N.1 host ∈ tables_1) (hin : Cond.instanceMethod N.1 ∈ aw_T) (hse : Cond.selects N.1.cls N.1 N.1 ∈ aw_T) (hsh : sh[k]? = some (0, ci)) (hci : aw_cl[ci]? = some (N.1.cls, T, NF)) (hd : decode M.2.1 pc = .ok (.invokevirtual idx, 3)) (hk : aw_K N n) (hst : st = As.reverse ++ .ref k :: rest) (hn : As.length = n) (hrs : (rest.map fun v => v.category).sum ≤ 8) (hc : ce + mc' ≤ mc) (hs : sl + ms' ≤ ms) (kk : Sp l N d mc' ms' (.ref k :: As) sh S (fun r sh' S' => AW l M (d + 1) mc ms G (ce + mc') (sl + ms') (pc + 3) ls (r.toList ++ rest) sh' S')) : AW l M (d + 1) mc ms G ce sl pc ls st sh S := fun b D tc xa p e s m args below meth c H locs arr hC hR hz hl hS => aw_sz hR hz hC.bs hS fun hH => by
  subst hst
  refine aw_run (rest := rest) (va_runVN (C := N.1.cls) (b := b + k) (As := As.map (aw_cv b xa)) (rest := rest.map (aw_cv b xa)) ⟨hC.ex, hC.bt, hC.ml, hC.ow, hC.ts⟩ (kk b D tc xa) ⟨va_cnB n hC.ts (fun w hw => (List.mem_cons.mp hw).elim (fun q => by rw [q]; exact aw_good _ hk.1) (fun q => aw_good w q)) rfl rfl rfl (hC.X.1 _ _ _ _ hlk) (hC.ts _ hk.2.1) hk.2.2.1 ⟨Nat.le_refl _, by have := hk.2.2.2.1; show 8 + (_ + 11) + (64 * d + 64) ≤ 64 * (d + 1) + 64; omega⟩, hC.ts _ hin, hC.ts _ hse⟩ ⟨fun a U g mk q => ⟨q.1, q.2.1, va_K.moved (u := U) (U := U.calling g mk a) (Vm.Alike.refl U.vm) q.2.2.1, q.2.2.2.1, q.2.2.2.2.same rfl rfl⟩, va_recv hC.K hR hci (aw_get hsh), fun U hU hW => ⟨rfl, by rw [hU]; exact hR, va_K.moved hW.alike hC.K, by rw [hU, hH], hC.X.mv hW (fun q h1 h2 => by rw [hU]; exact hS.2.1 q h1 h2)⟩⟩ rfl (by rw [List.length_map]; exact hn) hl.1 (by show List.map _ _ = _; simp [aw_cv]) (lv_room (by rw [aw_cv_sum]; exact hrs)) hd ⟨hc, hs⟩) hC hH hz hl hS (fun r sh' S' h => h)
theorem r_callS {N : aw_MI} {n idx mc' ms' k : Nat} {As rest : List Value} (hlk : Cond.methodLink M.1.cls idx N.1 ∈ aw_T) (hin : Cond.static N.1 ∈ aw_T) (hd : decode M.2.1 pc = .ok (.invokestatic idx, 3)) (hk : aw_K N n) (hst : st = As.reverse ++ rest) (hn : As.length = n) (hrs : (rest.map fun v => v.category).sum ≤ 8) (hc : ce + mc' ≤ mc) (hs : sl + ms' ≤ ms) (kk : Sp l N d mc' ms' As sh S (fun r sh' S' => AW l M (d + 1) mc ms G (ce + mc') (sl + ms') (pc + 3) ls (r.toList ++ rest) sh' S')) : AW l M (d + 1) mc ms G ce sl pc ls st sh S := fun b D tc xa p e s m args below meth c H locs arr hC hR hz hl hS => aw_sz hR hz hC.bs hS fun hH => by
  subst hst
  refine aw_run (rest := rest) (va_runS (As := As.map (aw_cv b xa)) (rest := rest.map (aw_cv b xa)) ⟨hC.ex, hC.bt, hC.ml, hC.ow, hC.ts⟩ (kk b D tc xa) ⟨callB_of n hC.ts (fun w hw => (List.mem_cons.mp hw).elim (fun q => by rw [q]; exact aw_good _ hk.1) (fun q => aw_good w q)) rfl rfl rfl (hC.ts _ hk.2.1) (hC.ts _ hlk) hk.2.2.1 ⟨Nat.le_refl _, by have := hk.2.2.2.1; show 8 + (_ + 11) + (64 * d + 64) ≤ 64 * (d + 1) + 64; omega⟩, hC.ts _ hin⟩ ⟨fun a U g mk q => ⟨q.1, q.2.1, va_K.moved (u := U) (U := U.calling g mk a) (Vm.Alike.refl U.vm) q.2.2.1, q.2.2.2.1, q.2.2.2.2.same rfl rfl⟩, fun U hU hW => ⟨rfl, by rw [hU]; exact hR, va_K.moved hW.alike hC.K, by rw [hU, hH], hC.X.mv hW (fun q h1 h2 => by rw [hU]; exact hS.2.1 q h1 h2)⟩⟩ rfl (by rw [List.length_map]; exact hn) hl.1 (by show List.map _ _ = _; simp) (lv_room (by rw [aw_cv_sum]; exact hrs)) hd ⟨hc, hs⟩) hC hH hz hl hS (fun r sh' S' h => h)
theorem r_callSN {N : aw_MI} {n idx mc' ms' k : Nat} {As rest : List Value} {host : String} (hlk : Cond.methodLinkNest M.1.cls idx N.1 host ∈ tables_1) (hin : Cond.static N.1 ∈ aw_T) (hd : decode M.2.1 pc = .ok (.invokestatic idx, 3)) (hk : aw_K N n) (hst : st = As.reverse ++ rest) (hn : As.length = n) (hrs : (rest.map fun v => v.category).sum ≤ 8) (hc : ce + mc' ≤ mc) (hs : sl + ms' ≤ ms) (kk : Sp l N d mc' ms' As sh S (fun r sh' S' => AW l M (d + 1) mc ms G (ce + mc') (sl + ms') (pc + 3) ls (r.toList ++ rest) sh' S')) : AW l M (d + 1) mc ms G ce sl pc ls st sh S := fun b D tc xa p e s m args below meth c H locs arr hC hR hz hl hS => aw_sz hR hz hC.bs hS fun hH => by
  subst hst
  refine aw_run (rest := rest) (va_runSN (As := As.map (aw_cv b xa)) (rest := rest.map (aw_cv b xa)) ⟨hC.ex, hC.bt, hC.ml, hC.ow, hC.ts⟩ (kk b D tc xa) ⟨va_cnB n hC.ts (fun w hw => (List.mem_cons.mp hw).elim (fun q => by rw [q]; exact aw_good _ hk.1) (fun q => aw_good w q)) rfl rfl rfl (hC.X.1 _ _ _ _ hlk) (hC.ts _ hk.2.1) hk.2.2.1 ⟨Nat.le_refl _, by have := hk.2.2.2.1; show 8 + (_ + 11) + (64 * d + 64) ≤ 64 * (d + 1) + 64; omega⟩, hC.ts _ hin, trivial⟩ ⟨fun a U g mk q => ⟨q.1, q.2.1, va_K.moved (u := U) (U := U.calling g mk a) (Vm.Alike.refl U.vm) q.2.2.1, q.2.2.2.1, q.2.2.2.2.same rfl rfl⟩, fun U hU hW => ⟨rfl, by rw [hU]; exact hR, va_K.moved hW.alike hC.K, by rw [hU, hH], hC.X.mv hW (fun q h1 h2 => by rw [hU]; exact hS.2.1 q h1 h2)⟩⟩ rfl (by rw [List.length_map]; exact hn) hl.1 (by show List.map _ _ = _; simp) (lv_room (by rw [aw_cv_sum]; exact hrs)) hd ⟨hc, hs⟩) hC hH hz hl hS (fun r sh' S' h => h)
theorem r_callI {N : aw_MI} {n idx mc' ms' k : Nat} {As rest : List Value} (hlk : Cond.methodLink M.1.cls idx N.1 ∈ aw_T) (hin : Cond.instanceMethod N.1 ∈ aw_T) (hnm : N.1.name = "<init>") (hrt : N.2.2.2 = none) (hd : decode M.2.1 pc = .ok (.invokespecial idx, 3)) (hk : aw_K N n) (hst : st = As.reverse ++ .ref k :: rest) (hn : As.length = n) (hrs : (rest.map fun v => v.category).sum ≤ 8) (hc : ce + mc' ≤ mc) (hs : sl + ms' ≤ ms) (kk : Sp l N d mc' ms' (.ref k :: As) sh S (fun r sh' S' => AW l M (d + 1) mc ms G (ce + mc') (sl + ms') (pc + 3) ls (r.toList ++ rest) sh' S')) : AW l M (d + 1) mc ms G ce sl pc ls st sh S := fun b D tc xa p e s m args below meth c H locs arr hC hR hz hl hS => aw_sz hR hz hC.bs hS fun hH => by
  subst hst
  refine aw_run (rest := rest) (va_runI (b := b + k) (As := As.map (aw_cv b xa)) (rest := rest.map (aw_cv b xa)) ⟨hC.ex, hC.bt, hC.ml, hC.ow, hC.ts⟩ (kk b D tc xa) ⟨by rw [← hrt]; exact callB_of n hC.ts (fun w hw => (List.mem_cons.mp hw).elim (fun q => by rw [q]; exact aw_good _ hk.1) (fun q => aw_good w q)) rfl rfl rfl (hC.ts _ hk.2.1) (hC.ts _ hlk) hk.2.2.1 ⟨Nat.le_refl _, by have := hk.2.2.2.1; show 8 + (_ + 11) + (64 * d + 64) ≤ 64 * (d + 1) + 64; omega⟩, hnm, hC.ts _ hin⟩ ⟨fun a U g mk q => ⟨q.1, q.2.1, va_K.moved (u := U) (U := U.calling g mk a) (Vm.Alike.refl U.vm) q.2.2.1, q.2.2.2.1, q.2.2.2.2.same rfl rfl⟩, fun U hU hW => ⟨rfl, by rw [hU]; exact hR, va_K.moved hW.alike hC.K, by rw [hU, hH], hC.X.mv hW (fun q h1 h2 => by rw [hU]; exact hS.2.1 q h1 h2)⟩⟩ rfl (by rw [List.length_map]; exact hn) hl.1 (by show List.map _ _ = _; simp [aw_cv]) (lv_room (by rw [aw_cv_sum]; exact hrs)) hd ⟨hc, hs⟩) hC hH hz hl hS (fun r sh' S' h => h)
theorem r_callIN {N : aw_MI} {n idx mc' ms' k : Nat} {As rest : List Value} {host : String} (hlk : Cond.methodLinkNest M.1.cls idx N.1 host ∈ tables_1) (hin : Cond.instanceMethod N.1 ∈ aw_T) (hnm : N.1.name = "<init>") (hrt : N.2.2.2 = none) (hd : decode M.2.1 pc = .ok (.invokespecial idx, 3)) (hk : aw_K N n) (hst : st = As.reverse ++ .ref k :: rest) (hn : As.length = n) (hrs : (rest.map fun v => v.category).sum ≤ 8) (hc : ce + mc' ≤ mc) (hs : sl + ms' ≤ ms) (kk : Sp l N d mc' ms' (.ref k :: As) sh S (fun r sh' S' => AW l M (d + 1) mc ms G (ce + mc') (sl + ms') (pc + 3) ls (r.toList ++ rest) sh' S')) : AW l M (d + 1) mc ms G ce sl pc ls st sh S := fun b D tc xa p e s m args below meth c H locs arr hC hR hz hl hS => aw_sz hR hz hC.bs hS fun hH => by
  subst hst
  refine aw_run (rest := rest) (va_runIN (b := b + k) (As := As.map (aw_cv b xa)) (rest := rest.map (aw_cv b xa)) ⟨hC.ex, hC.bt, hC.ml, hC.ow, hC.ts⟩ (kk b D tc xa) ⟨by rw [← hrt]; exact va_cnB n hC.ts (fun w hw => (List.mem_cons.mp hw).elim (fun q => by rw [q]; exact aw_good _ hk.1) (fun q => aw_good w q)) rfl rfl rfl (hC.X.1 _ _ _ _ hlk) (hC.ts _ hk.2.1) hk.2.2.1 ⟨Nat.le_refl _, by have := hk.2.2.2.1; show 8 + (_ + 11) + (64 * d + 64) ≤ 64 * (d + 1) + 64; omega⟩, hnm, hC.ts _ hin⟩ ⟨fun a U g mk q => ⟨q.1, q.2.1, va_K.moved (u := U) (U := U.calling g mk a) (Vm.Alike.refl U.vm) q.2.2.1, q.2.2.2.1, q.2.2.2.2.same rfl rfl⟩, fun U hU hW => ⟨rfl, by rw [hU]; exact hR, va_K.moved hW.alike hC.K, by rw [hU, hH], hC.X.mv hW (fun q h1 h2 => by rw [hU]; exact hS.2.1 q h1 h2)⟩⟩ rfl (by rw [List.length_map]; exact hn) hl.1 (by show List.map _ _ = _; simp [aw_cv]) (lv_room (by rw [aw_cv_sum]; exact hrs)) hd ⟨hc, hs⟩) hC hH hz hl hS (fun r sh' S' h => h)
theorem r_objInit {idx k : Nat} (hd : decode M.2.1 pc = .ok (.invokespecial idx, 3)) (hlk : Cond.methodLink M.1.cls idx Lib.objectInit ∈ aw_T) (hin : Cond.instanceMethod Lib.objectInit ∈ aw_T) (hco : Cond.code Lib.objectInit ⟨#[0xb1]⟩ 1 none ∈ aw_T) (hst : (st.map fun v => v.category).sum ≤ 8) (kk : AW l M (d + 1) mc ms G ce sl (pc + 3) ls st sh S) : AW l M (d + 1) mc ms G ce sl pc ls (.ref k :: st) sh S := fun b D tc xa p e s m args below meth c H locs arr hC hR hz hl hS => W.objInit hC.ex hC.bt hC.ow (hC.ts _ hlk) (hC.ts _ hin) (hC.ts _ hco) rfl (hl.1.trans hC.ml.symm) rfl hd (Nat.succ_le_succ (Nat.zero_le _)) (by show 2 * 0 + _ + 12 ≤ 64 * (d + 1) + 64; rw [aw_cv_sum]; omega) (kk b D tc xa p e s m args below meth c H locs arr hC hR hz hl hS)
end AWR
theorem aw_en_len (b : Nat) (xa : Nat → Nat) : ∀ vs : List Value, (lg_sl (vs.map (aw_cv b xa))).length = (aw_en vs).length
  | [] => rfl
  | v :: vs => by
    have ih := aw_en_len b xa vs
    have e : lg_sl ((v :: vs).map (aw_cv b xa)) = (if (aw_cv b xa v).category = 2 then [.val (aw_cv b xa v), .second] else [.val (aw_cv b xa v)]) ++ lg_sl (vs.map (aw_cv b xa)) := rfl
    rw [e, List.length_append, ih, aw_cv_cat]
    cases v <;> first | (show 2 + (aw_en vs).length = (aw_en vs).length + 1 + 1; omega) | (show 1 + (aw_en vs).length = (aw_en vs).length + 1; omega)
theorem aw_en_mem (b : Nat) (xa : Nat → Nat) : ∀ (vs : List Value) (i0 i : Nat) (v : Value), (aw_en vs)[i]? = some v → v ≠ .null → (i0 + i, aw_cv b xa v) ∈ lv_args i0 (vs.map (aw_cv b xa))
  | [], _, i, v, h, _ => by simp [aw_en] at h
  | w :: vs, i0, i, v, h, hv => by
    have ih := aw_en_mem b xa vs
    have two : ∀ u : Value, u.category = 2 → aw_cv b xa u = u → aw_en (u :: vs) = u :: .null :: aw_en vs → (aw_en (u :: vs))[i]? = some v → (i0 + i, aw_cv b xa v) ∈ lv_args i0 ((u :: vs).map (aw_cv b xa)) := by
      intro u hu hcu he h
      rw [he] at h
      rw [List.map_cons, hcu, lv_args, hu]
      match i, h with
      | 0, h =>
        rw [← Option.some.inj h, hcu]
        exact List.mem_cons_self
      | 1, h => exact absurd (Option.some.inj h).symm hv
      | i + 2, h =>
        refine List.mem_cons_of_mem _ ?_
        have := ih (i0 + 2) i v h hv
        rw [show i0 + (i + 2) = i0 + 2 + i by omega]
        exact this
    have one : ∀ u : Value, u.category = 1 → aw_en (u :: vs) = u :: aw_en vs → (aw_en (u :: vs))[i]? = some v → (i0 + i, aw_cv b xa v) ∈ lv_args i0 ((u :: vs).map (aw_cv b xa)) := by
      intro u hu he h
      rw [he] at h
      rw [List.map_cons, lv_args, aw_cv_cat, hu]
      match i, h with
      | 0, h =>
        rw [← Option.some.inj h]
        exact List.mem_cons_self
      | i + 1, h =>
        refine List.mem_cons_of_mem _ ?_
        have := ih (i0 + 1) i v h hv
        rw [show i0 + (i + 1) = i0 + 1 + i by omega]
        exact this
    cases w with
    | long x => exact two (.long x) rfl rfl rfl h
    | double x => exact two (.double x) rfl rfl rfl h
    | int x => exact one (.int x) rfl rfl h
    | float x => exact one (.float x) rfl rfl h
    | null => exact one .null rfl rfl h
    | ref x => exact one (.ref x) rfl rfl h
    | retAddr x => exact one (.retAddr x) rfl rfl h
theorem aw_ofW {l : Launch} {y : MethodName} {ws ws' : List Cond} {rm : Room} {Pc : Array Value → State → Prop} {Qc : Array Value → State → Outcome → State → Prop} {mc ms : Nat} {free : Addr → Prop} {cc : ByteArray} {maxL : Nat} {ret : Option FieldType}
    (hy : plainFor y = true) (hw : ws = Cond.code y cc maxL ret :: ws')
    (body : ∀ p e s m args below meth c s₁, BodyLoose p l y (headSpec ws rm) cc maxL ret e s m args below meth c s₁ → c.maxLocals = maxL → Pc args s →
      W p l e (headSpec ws rm).room s m args below meth c s.heap [] 0 0 (MQ below Qc args s mc ms free) (entryFrame m args maxL)) : Met l y ws rm Pc Qc mc ms free := by
  refine MetFree.of_bodySF (code := cc) (maxLocals := maxL) (ret := ret) hy ?_ ?_
  · intro args s m h hn
    obtain ⟨meth, c, h1, h2, h3, h4, h5, h6, -, -⟩ := Cond.code_spec hn (atoms_spec (ws := ws) h _ (by rw [hw]; exact List.mem_cons_self))
    exact ⟨meth, c, h1, h2, h3, h4, h5, h6⟩
  · intro p e s m args below meth c s₁ B hml hP _
    have hh0 : s₁.heap = s.heap := by rw [B.state]; rfl
    obtain ⟨t, a1, o, b1, b2, b3⟩ := body p e s m args below meth c s₁ B hml hP s₁ hh0 (Stand.of_body B)
    exact ⟨t, o, a1, b1, b2, ⟨b3.1, b3.2⟩⟩
theorem Sp.of {l : Launch} {M : aw_MI} {d mc ms n : Nat} {G : aw_G} {vs ls : List Value} {sh : aw_SH} {S : aw_S} (hk : aw_K M n) (hls : aw_en vs ++ List.replicate (M.2.2.1 - (aw_en vs).length) .null = ls) (hln : (aw_en vs).length ≤ M.2.2.1) (k : AW l M d mc ms G 0 0 0 ls [] sh S) : Sp l M d mc ms vs sh S G := by
  intro b D tc xa
  refine aw_ofW (cc := M.2.1) (maxL := M.2.2.1) (ret := M.2.2.2) hk.2.2.2.2 rfl ?_
  intro p e s m args below meth c s₁ B hml hv
  obtain ⟨rfl, hR, hK, hz, hX⟩ := hv
  have hts0 := atoms_spec (ws := Cond.code M.1 M.2.1 M.2.2.1 M.2.2.2 :: aw_T) B.pre
  have hl := lv_entry (vs.map (aw_cv b xa)) (n := M.2.2.1) (by rw [aw_en_len]; exact hln)
  rw [lg_entry_eq]
  generalize (lg_sl (vs.map (aw_cv b xa)) ++ List.replicate (M.2.2.1 - (lg_sl (vs.map (aw_cv b xa))).length) Slot.unset).toArray = arr at hl ⊢
  refine k b D tc xa p e s m _ below meth c s.heap [] arr ⟨B.exec, B.bytes, B.returns, B.notSynchronized, hml, findClass_of_methodNamed B.named, fun w hw => hts0 w (List.mem_cons_of_mem _ hw), hK, by omega, (name_of_methodNamed B.named B.method).1, hX⟩ hR (by omega) ?_ va_S.rf
  refine ⟨hl.1, hl.2.1, by rw [← hls]; simp; omega, fun i v hi hv => ?_⟩
  rw [← hls] at hi
  have hi2 : (aw_en vs)[i]? = some v := by
    by_cases hc : i < (aw_en vs).length
    · rw [List.getElem?_append_left hc] at hi
      exact hi
    · rw [List.getElem?_append_right (by omega)] at hi
      have := List.mem_of_getElem? hi
      exact absurd (List.mem_replicate.mp this).2 hv
  have := hl.2.2 _ (aw_en_mem b xa vs 0 i v hi2 hv)
  simpa using this
