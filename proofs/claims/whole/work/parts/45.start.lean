def aw_S0 : aw_S := (fun _ _ => 0, fun _ _ => 0, fun _ _ => none)
theorem aw_fl {args : Array Value} {s : State} (h : (Jvm.Cond.and given_1 narrow_1).before args s = true) {w : Cond} (i : Nat) (hi : (flatC (Jvm.Cond.and given_1 narrow_1))[i]? = some w) : w.before args s = true := flat_of_before _ h w (List.mem_of_getElem? hi)
def aw_tm0 : Term := .string "MaypoleGreen$Tokens" 15
theorem aw_el0 : (List.range 100).map (fun j => Cond.eq (.elem (.field aw_tm0 "java/lang/String" "value" "[B") (.int (Int32.ofNat j))) (.int (aw_b0.getD j 0))) = ((flatC (Jvm.Cond.and given_1 narrow_1)).drop 37).take 100 := by decide +kernel
def aw_tm1 : Term := .string "MaypoleGreenModel" 244
theorem aw_el1 : (List.range 101).map (fun j => Cond.eq (.elem (.field aw_tm1 "java/lang/String" "value" "[B") (.int (Int32.ofNat j))) (.int (aw_b1.getD j 0))) = ((flatC (Jvm.Cond.and given_1 narrow_1)).drop 141).take 101 := by decide +kernel
theorem aw_bl0 : aw_b0.length = 100 := by decide +kernel
theorem aw_bl1 : aw_b1.length = 101 := by decide +kernel
theorem aw_tb {args : Array Value} {s : State} (hts : ∀ w ∈ lw_tbl, w.before args s = true) {w : Cond} (i : Nat) (h : tables_1[i]? = some w) : w.before args s = true := hts w (List.mem_append_right _ (List.mem_of_getElem? h))
theorem aw_arr {args : Array Value} {s : State} {ty : FieldType} (h : (Cond.arrayClass ty).before args s = true) : ∃ c, ArrOfT s c ty ∧ s.vm.findClass ("[" ++ ty.toString) = some c := by
  obtain ⟨c, k, comp, h1, h2, h3⟩ := Cond.arrayClass_spec h
  exact ⟨c, fun n z => ⟨fun q hq => (by cases hq), k, h2, comp, h3⟩, h1⟩
theorem aw_arq {args : Array Value} {s : State} {C : String} (h : (Cond.arrayOver (.object C)).before args s = true) : ∃ c, ArrOfT s c (.object C) ∧ va_RA s c (.object C) := by
  obtain ⟨comp, c, k, h1, h2, h3, h4, h5⟩ := Cond.arrayOver_spec h
  exact ⟨c, fun n z => ⟨fun q hq => (by cases hq), k, h3, comp, h4⟩, k, comp, h3, h4, h1, h5⟩
set_option maxHeartbeats 1000000 in
/-- from the law's entry to its picture -/
theorem whole_from (hall : ∀ (l : Launch) (b0 L : Nat) (xs : Nat → Int32), L ≤ 3072 → AL l b0 L xs 0 0 0 [.float 0, .null, .null, .null] [] [] aw_S0) {p : Program} {e : Env} {s : State} {m : MethodId} {below : List Frame} {meth : Method} {c : Code} (l : Launch) {b L : Nat} {xs : Nat → Int32} (hL : L ≤ 3072) (C0 : lw_At p s m meth c b L xs) : W p l e room_1 s m #[Value.ref b] below meth c s.heap [] 0 0 (lw_Z below #[Value.ref b] s) (entryFrame m ([Value.ref b] : List Value).toArray 4) := by
  obtain ⟨hx, hb, hr, hml, hown, hts, hX, hbl, hlocks, hgv, hnm⟩ := id C0
  have htg : ∀ w ∈ aw_T, w.before #[Value.ref b] s = true := fun w hw => hts w (List.mem_filter.mp hw).1
  obtain ⟨c0, j0, g0⟩ := u_known (C := cR0) (T := cT0) (N := 19) (n := 19) htg ci0 (aw_tb hts 23 (by decide +kernel))
  obtain ⟨c1, j1, g1⟩ := u_known (C := cR1) (T := cT1) (N := 4) (n := 4) htg ci1 (aw_tb hts 32 (by decide +kernel))
  obtain ⟨c2, j2, g2⟩ := u_known (C := cR2) (T := cT2) (N := 13) (n := 13) htg ci2 (aw_tb hts 57 (by decide +kernel))
  obtain ⟨c3, j3, g3⟩ := u_known (C := cR3) (T := cT3) (N := 2) (n := 2) htg ci3 (aw_tb hts 63 (by decide +kernel))
  obtain ⟨c4, j4, g4⟩ := u_known (C := cR4) (T := cT4) (N := 7) (n := 7) htg ci4 (aw_tb hts 82 (by decide +kernel))
  obtain ⟨c5, j5, g5⟩ := u_known (C := cR5) (T := cT5) (N := 10) (n := 10) htg ci5 (aw_tb hts 188 (by decide +kernel))
  obtain ⟨c6, j6, g6⟩ := u_known (C := cR6) (T := cT6) (N := 11) (n := 11) htg ci6 (aw_tb hts 194 (by decide +kernel))
  obtain ⟨c7, j7, g7⟩ := u_known (C := cR7) (T := cT7) (N := 7) (n := 7) htg ci7 (aw_tb hts 321 (by decide +kernel))
  obtain ⟨c8, j8, g8⟩ := u_known (C := cR8) (T := cT8) (N := 2) (n := 2) htg ci8 (aw_tb hts 352 (by decide +kernel))
  obtain ⟨c9, j9, g9⟩ := u_known (C := cR9) (T := cT9) (N := 9) (n := 9) htg ci9 (aw_tb hts 365 (by decide +kernel))
  obtain ⟨c10, j10, g10⟩ := u_known (C := cR10) (T := cT10) (N := 4) (n := 4) htg ci10 (aw_tb hts 403 (by decide +kernel))
  obtain ⟨c11, j11, g11⟩ := u_known (C := cR11) (T := cT11) (N := 52) (n := 52) htg ci11 (aw_tb hts 1245 (by decide +kernel))
  have hKc : ∀ (k : Nat) (q : vw_C), aw_cl[k]? = some q → u_Kn s q.1 q.2.1 q.2.2 (([c0, c1, c2, c3, c4, c5, c6, c7, c8, c9, c10, c11] : List ClassId).getD k 0) (([j0, j1, j2, j3, j4, j5, j6, j7, j8, j9, j10, j11] : List (Nat → Nat)).getD k (fun _ => 0)) := by
    intro k q hq
    match k, hq with
    | 0, hq => cases hq; exact g0
    | 1, hq => cases hq; exact g1
    | 2, hq => cases hq; exact g2
    | 3, hq => cases hq; exact g3
    | 4, hq => cases hq; exact g4
    | 5, hq => cases hq; exact g5
    | 6, hq => cases hq; exact g6
    | 7, hq => cases hq; exact g7
    | 8, hq => cases hq; exact g8
    | 9, hq => cases hq; exact g9
    | 10, hq => cases hq; exact g10
    | 11, hq => cases hq; exact g11
    | k + 12, hq => simp [aw_cl] at hq
  obtain ⟨t0, A0, B0⟩ := aw_arr (aw_tb hts 79 (by decide +kernel) : (Cond.arrayClass .byte).before #[Value.ref b] s = true)
  obtain ⟨t1, A1, B1⟩ := aw_arr (aw_tb hts 1411 (by decide +kernel) : (Cond.arrayClass .boolean).before #[Value.ref b] s = true)
  obtain ⟨t2, A2, B2⟩ := aw_arr (aw_tb hts 80 (by decide +kernel) : (Cond.arrayClass .int).before #[Value.ref b] s = true)
  obtain ⟨t3, A3, B3⟩ := aw_arr (aw_tb hts 55 (by decide +kernel) : (Cond.arrayClass .long).before #[Value.ref b] s = true)
  have o4 : (Cond.arrayOver (.object "MaypoleGreen$Tray")).before #[Value.ref b] s = true := aw_tb hts 31 (by decide +kernel)
  have o5 : (Cond.arrayOver (.object "MaypoleGreen$Green")).before #[Value.ref b] s = true := aw_tb hts 184 (by decide +kernel)
  obtain ⟨t4, A4, B4⟩ := aw_arq o4
  obtain ⟨t5, A5, B5⟩ := aw_arq o5
  have hK : va_K (fun k => ([c0, c1, c2, c3, c4, c5, c6, c7, c8, c9, c10, c11] : List ClassId).getD k 0, fun k => ([j0, j1, j2, j3, j4, j5, j6, j7, j8, j9, j10, j11] : List (Nat → Nat)).getD k (fun _ => 0)) aw_cl (aw_tys (fun k => [t0, t1, t2, t3, t4, t5].getD k 0)) s := by
    refine ⟨hKc, fun k q hq => ?_⟩
    match k, hq with
    | 0, hq => cases hq; exact ⟨A0, B0⟩
    | 1, hq => cases hq; exact ⟨A1, B1⟩
    | 2, hq => cases hq; exact ⟨A2, B2⟩
    | 3, hq => cases hq; exact ⟨A3, B3⟩
    | 4, hq => cases hq; exact ⟨A4, B4⟩
    | 5, hq => cases hq; exact ⟨A5, B5⟩
    | k + 6, hq => simp [aw_tys] at hq
  have hA : ∀ a : Nat, a < s.heap.size → ¬ (fun q : Nat => s.heap.size ≤ q) a := fun a h => Nat.not_le.mpr h
  have c0 : ∀ (i : Nat), i < 2 → i = 0 ∨ i = 1 := fun i h => by omega
  obtain ⟨adK, adV, hE, had⟩ := vk_Sof (args := #[Value.ref b]) (s := s) (N := 2) (tm := fun i => if i = 0 then aw_tm0 else aw_tm1) (len := [aw_b0.length, aw_b1.length]) (byt := [aw_b0, aw_b1]) (A := fun q => s.heap.size ≤ q)
    (fun i hi => by rcases c0 i hi with rfl | rfl <;> decide +kernel)
    (fun i hi => by rcases c0 i hi with rfl | rfl; exact aw_fl hgv 33 (by decide +kernel); exact aw_fl hgv 137 (by decide +kernel))
    (fun i hi => by rcases c0 i hi with rfl | rfl; exact aw_fl hgv 34 (by decide +kernel); exact aw_fl hgv 138 (by decide +kernel))
    (fun i hi => by rcases c0 i hi with rfl | rfl; exact aw_fl hgv 35 (by decide +kernel); exact aw_fl hgv 139 (by decide +kernel))
    (fun i hi => by rcases c0 i hi with rfl | rfl; exact aw_fl hgv 36 (by decide +kernel); exact aw_fl hgv 140 (by decide +kernel))
    (fun i hi j hj => by
      rcases c0 i hi with rfl | rfl
      · exact flat_of_before _ hgv _ (va_run aw_el0 j (by have h := hj; rw [show ([aw_b0.length, aw_b1.length].getD 0 0) = aw_b0.length from rfl, aw_bl0] at h; exact h))
      · exact flat_of_before _ hgv _ (va_run aw_el1 j (by have h := hj; rw [show ([aw_b0.length, aw_b1.length].getD 1 0) = aw_b1.length from rfl, aw_bl1] at h; exact h)))
    (fun i j hi hj hij => by
      rcases c0 i hi with rfl | rfl <;> rcases c0 j hj with rfl | rfl
      · exact absurd rfl hij
      · exact Or.inl (aw_fl hgv 242 (by decide +kernel))
      · exact Or.inr (aw_fl hgv 242 (by decide +kernel))
      · exact absurd rfl hij) hA
  have hR0 : vk_R "MaypoleGreen$Tokens" 15 aw_tx0 (adK 0) s := by
    have h1 : (Cond.stringRef "MaypoleGreen$Tokens" 15 aw_tx0).before #[Value.ref b] s = true := aw_tb hts 199 (by decide +kernel)
    exact ⟨h1, had 0 (by decide)⟩
  have hR1 : vk_R "MaypoleGreenModel" 244 aw_tx1 (adK 1) s := by
    have h1 : (Cond.stringRef "MaypoleGreenModel" 244 aw_tx1).before #[Value.ref b] s = true := aw_tb hts 1499 (by decide +kernel)
    exact ⟨h1, had 1 (by decide)⟩
  have hZ : va_Z "java/lang/String" "COMPACT_STRINGS" "Z" (.int 1) (fun q => s.heap.size ≤ q) s s.heap := va_Zof (aw_tb hts 209 (by decide +kernel)) (aw_tb hts 8 (by decide +kernel)) (va_eqt (aw_fl hgv 4 (by decide +kernel))) hA
  have hQ : va_Zq "jdk/internal/util/Preconditions" "SIOOBE_FORMATTER" "Ljava/util/function/BiFunction;" (fun q => s.heap.size ≤ q) s s.heap := va_Zqof (aw_tb hts 225 (by decide +kernel)) (aw_tb hts 10 (by decide +kernel)) (aw_fl hgv 5 (by decide +kernel)) hA
  obtain ⟨fm, hfm⟩ : ∃ fm : Nat, va_Z "jdk/internal/util/Preconditions" "SIOOBE_FORMATTER" "Ljava/util/function/BiFunction;" .null (fun q => s.heap.size ≤ q) s s.heap ∨ va_Z "jdk/internal/util/Preconditions" "SIOOBE_FORMATTER" "Ljava/util/function/BiFunction;" (.ref fm) (fun q => s.heap.size ≤ q) s s.heap := by
    rcases hQ with h | ⟨t, h⟩
    · exact ⟨0, Or.inl h⟩
    · exact ⟨t, Or.inr h⟩
  have hl := lv_entry ([.ref b]) (n := 4) (Nat.le_of_ble_eq_true rfl)
  rw [lg_entry_eq]
  generalize (lg_sl ([.ref b]) ++ List.replicate (4 - (lg_sl ([.ref b])).length) Slot.unset).toArray = ls at hl ⊢
  refine hall l b L xs hL s.heap.size _ _ (fun k => [b, adK 0, adK 1, adV 0, adV 1, fm].getD k 0) p e s m _ below meth c s.heap [] ls ⟨⟨hx, hb, hr, hlocks, hml, hown, htg, hK, Nat.le_refl _, ?_, ?_⟩, hX, hbl, rfl, rfl, rfl⟩ (fun k q h => by simp [aw_W] at h) (by simp) ?_ va_S.rf
  · exact hnm
  · refine ⟨fun a i y h hm => va_Nw.of rfl (hts _ (List.mem_append_right _ hm)), o4, o5, ?_, hR0, hR1, hZ, hfm⟩
    refine ⟨fun i hi => ?_, fun i j hi hj hij => ?_⟩
    · have := hE.1 i hi
      rcases c0 i hi with rfl | rfl <;> exact this
    · refine hE.2 i j hi hj ?_
      rcases c0 i hi with rfl | rfl <;> rcases c0 j hj with rfl | rfl <;> exact hij
  · refine ⟨hl.1, hl.2.1, rfl, fun i v hi hv => ?_⟩
    match i, hi with
    | 0, hi =>
      cases hi
      exact hl.2.2 (0, .ref b) (by simp [lv_args])
    | 1, hi => cases hi; exact absurd rfl hv
    | 2, hi => cases hi; exact absurd rfl hv
    | 3, hi => cases hi; exact absurd rfl hv
    | i + 4, hi => simp at hi
