/-! A PICTURE OF THE HEAP BY PLACES. Every cell that law makes has a number k (its address is b + k). Its kind stands in a list (0, c): an object of the c-th class; (t + 1, n): an array of n of the t-th kind (byte, boolean, int, long, Tray, Green). What it holds stands in three functions: ints, longs, references. -/
abbrev aw_S : Type := (Nat → Nat → Int32) × (Nat → Nat → Int64) × (Nat → Nat → Option Nat)
abbrev aw_SH : Type := List (Nat × Nat)
def aw_cv (b : Nat) (xa : Nat → Nat) : Value → Value
  | .ref k => .ref (b + k)
  | .float k => .ref (xa k.toNat)
  | v => v
theorem aw_cv_cat (b : Nat) (xa : Nat → Nat) (v : Value) : (aw_cv b xa v).category = v.category := by cases v <;> rfl
theorem aw_cv_sum (b : Nat) (xa : Nat → Nat) (l : List Value) : ((l.map (aw_cv b xa)).map fun v => v.category).sum = (l.map fun v => v.category).sum := by
  rw [List.map_map]
  congr 1
  apply List.map_congr_left
  intro v _
  exact aw_cv_cat b xa v
def aw_fv (ty : FieldType) (b : Nat) (i : Int32) (l : Int64) (r : Option Nat) : Value := match ty with
  | .long => .long l
  | .object _ => va_rf (r.map (b + ·))
  | .array _ => va_rf (r.map (b + ·))
  | _ => .int i
def aw_fs (b c : Nat) (hI : Nat → Int32) (hL : Nat → Int64) (hR : Nat → Option Nat) : List Value := (List.range (aw_N c)).map fun j => aw_fv (aw_ty c j) b (hI j) (hL j) (hR j)
def aw_ar (b t n : Nat) (hI : Nat → Int32) (hL : Nat → Int64) (hR : Nat → Option Nat) : vp_A := (n, if t = 3 then .inr (.inl hL) else if t < 3 then .inl hI else .inr (.inr (.inr (.inr (fun j => (hR j).map (b + ·))))))
def aw_E (b : Nat) (tc : Nat → ClassId) (x : Nat × Nat) (hI : Nat → Int32) (hL : Nat → Int64) (hR : Nat → Option Nat) : va_E := match x.1 with
  | 0 => .inr (x.2, aw_fs b x.2 hI hL hR)
  | t + 1 => .inl (tc t, aw_ar b t x.2 hI hL hR)
def aw_W (b : Nat) (tc : Nat → ClassId) (sh : aw_SH) (S : aw_S) : va_W := sh.mapIdx fun k x => (b + k, aw_E b tc x (S.1 k) (S.2.1 k) (S.2.2 k))
def aw_R (b : Nat) (D : va_G) (tc : Nat → ClassId) (sh : aw_SH) (S : aw_S) (H : Heap) : Prop := va_P D aw_cl (aw_W b tc sh S) H
def aw_at (t : Nat) : FieldType := [.byte, .boolean, .int, .long, .object "MaypoleGreen$Tray", .object "MaypoleGreen$Green"].getD t .int
def aw_tys (tc : Nat → ClassId) : List (ClassId × FieldType) := [(tc 0, .byte), (tc 1, .boolean), (tc 2, .int), (tc 3, .long), (tc 4, .object "MaypoleGreen$Tray"), (tc 5, .object "MaypoleGreen$Green")]
theorem aw_get {b : Nat} {tc : Nat → ClassId} {sh : aw_SH} {S : aw_S} {k : Nat} {x : Nat × Nat} (h : sh[k]? = some x) : (aw_W b tc sh S)[k]? = some (b + k, aw_E b tc x (S.1 k) (S.2.1 k) (S.2.2 k)) := by
  simp [aw_W, List.getElem?_mapIdx, h]
theorem aw_wlen {b : Nat} {tc : Nat → ClassId} {sh : aw_SH} {S : aw_S} : (aw_W b tc sh S).length = sh.length := by simp [aw_W]
theorem aw_D {b : Nat} {tc : Nat → ClassId} {sh : aw_SH} {S : aw_S} : va_D (fun q => b ≤ q) (aw_W b tc sh S) := by
  have key : ∀ (i : Nat) (p : Nat × va_E), (aw_W b tc sh S)[i]? = some p → p.1 = b + i := by
    intro i p h
    simp only [aw_W, List.getElem?_mapIdx] at h
    cases hi : sh[i]? with
    | none => simp [hi] at h
    | some x => simp [hi] at h; rw [← h]
  refine ⟨fun i j p q hi hj e => ?_, fun k q h => ?_⟩
  · have h1 := key i p hi
    have h2 := key j q hj
    omega
  · have h1 := key k q h
    show b ≤ q.1
    omega
theorem aw_set {b : Nat} {tc : Nat → ClassId} {sh : aw_SH} {S S' : aw_S} {k : Nat} {x : Nat × Nat} (h : sh[k]? = some x) (e : va_E) (he : e = aw_E b tc x (S'.1 k) (S'.2.1 k) (S'.2.2 k)) (ho : ∀ j, j ≠ k → S'.1 j = S.1 j ∧ S'.2.1 j = S.2.1 j ∧ S'.2.2 j = S.2.2 j) : (aw_W b tc sh S).set k (b + k, e) = aw_W b tc sh S' := by
  apply List.ext_getElem?
  intro i
  by_cases hi : k = i
  · subst hi
    have hl : k < (aw_W b tc sh S).length := by rw [aw_wlen]; exact (List.getElem?_eq_some_iff.mp h).1
    rw [List.getElem?_set_self hl, aw_get h, he]
  · rw [List.getElem?_set_ne hi]
    simp only [aw_W, List.getElem?_mapIdx]
    obtain ⟨h1, h2, h3⟩ := ho i (fun q => hi q.symm)
    rw [h1, h2, h3]
def aw_uI (S : aw_S) (k j : Nat) (v : Int32) : aw_S := (va_up S.1 k (upd (S.1 k) j v), S.2.1, S.2.2)
def aw_uL (S : aw_S) (k j : Nat) (v : Int64) : aw_S := (S.1, va_up S.2.1 k (vp_updL (S.2.1 k) j v), S.2.2)
def aw_uR (S : aw_S) (k j : Nat) (v : Option Nat) : aw_S := (S.1, S.2.1, va_up S.2.2 k (va_up (S.2.2 k) j v))
def aw_kI (ty : FieldType) : Bool := match ty with
  | .long => false
  | .object _ => false
  | .array _ => false
  | _ => true
theorem aw_fs_at {b c j : Nat} {hI : Nat → Int32} {hL : Nat → Int64} {hR : Nat → Option Nat} (h : j < aw_N c) : (aw_fs b c hI hL hR)[j]? = some (aw_fv (aw_ty c j) b (hI j) (hL j) (hR j)) := by
  simp [aw_fs, h]
theorem aw_fs_len {b c : Nat} {hI : Nat → Int32} {hL : Nat → Int64} {hR : Nat → Option Nat} : (aw_fs b c hI hL hR).length = aw_N c := by simp [aw_fs]
theorem aw_fs_set {b c j : Nat} {hI hI' : Nat → Int32} {hL hL' : Nat → Int64} {hR hR' : Nat → Option Nat} (v : Value) (hv : v = aw_fv (aw_ty c j) b (hI' j) (hL' j) (hR' j)) (hj : j < aw_N c) (h : ∀ i, i ≠ j → hI' i = hI i ∧ hL' i = hL i ∧ hR' i = hR i) : (aw_fs b c hI hL hR).set j v = aw_fs b c hI' hL' hR' := by
  apply List.ext_getElem?
  intro i
  by_cases hi : j = i
  · subst hi
    rw [List.getElem?_set_self (by rw [aw_fs_len]; exact hj), aw_fs_at hj, hv]
  · rw [List.getElem?_set_ne hi]
    obtain ⟨h1, h2, h3⟩ := h i (fun q => hi q.symm)
    by_cases hl : i < aw_N c
    · rw [aw_fs_at hl, aw_fs_at hl, h1, h2, h3]
    · rw [List.getElem?_eq_none (by rw [aw_fs_len]; omega), List.getElem?_eq_none (by rw [aw_fs_len]; omega)]
theorem aw_fvI {ty : FieldType} (h : aw_kI ty = true) (b : Nat) (i : Int32) (l : Int64) (r : Option Nat) : aw_fv ty b i l r = .int i := by
  cases ty <;> first | rfl | (simp [aw_kI] at h)
/-! what stands in the slots of a frame: a list by their numbers; null: unknown -/
def aw_L (b : Nat) (xa : Nat → Nat) (n : Nat) (arr : Array Slot) (ls : List Value) : Prop := arr.size = n ∧ lv_wf arr ∧ ls.length = n ∧ ∀ (i : Nat) (v : Value), ls[i]? = some v → v ≠ .null → arr[i]? = some (.val (aw_cv b xa v))
def aw_pl (ls : List Value) (i : Nat) : List Value := match i with
  | 0 => ls
  | j + 1 => match ls[j]? with
    | some (.long _) => ls.set j .null
    | some (.double _) => ls.set j .null
    | _ => ls
def aw_st1 (ls : List Value) (i : Nat) (v : Value) : List Value := (aw_pl ls i).set i v
def aw_st2 (ls : List Value) (i : Nat) (v : Value) : List Value := ((aw_pl ls i).set i v).set (i + 1) .null
def aw_lv1 (b : Nat) (xa : Nat → Nat) (i : Nat) (v : Value) : Option (Nat × Value) := if v = .null then none else some (i, aw_cv b xa v)
def aw_lv (b : Nat) (xa : Nat → Nat) (ls : List Value) : List (Nat × Value) := (List.range ls.length).filterMap fun i => (ls[i]?).bind (aw_lv1 b xa i)
theorem aw_lv_mem {b : Nat} {xa : Nat → Nat} {ls : List Value} {i : Nat} {v : Value} (h : ls[i]? = some v) (hv : v ≠ .null) : (i, aw_cv b xa v) ∈ aw_lv b xa ls := by
  refine List.mem_filterMap.mpr ⟨i, List.mem_range.mpr (List.getElem?_eq_some_iff.mp h).1, ?_⟩
  simp [h, aw_lv1, hv]
theorem aw_L.has {b : Nat} {xa : Nat → Nat} {n : Nat} {arr : Array Slot} {ls : List Value} (h : aw_L b xa n arr ls) : lv_has arr n (aw_lv b xa ls) := by
  refine ⟨h.1, h.2.1, fun q hq => ?_⟩
  obtain ⟨i, hi, e⟩ := List.mem_filterMap.mp hq
  cases hs : ls[i]? with
  | none => simp [hs] at e
  | some v =>
    by_cases hv : v = .null
    · subst hv; simp [hs, aw_lv1] at e
    · have e2 : (i, aw_cv b xa v) = q := by
        simp [hs, aw_lv1, hv] at e
        exact e
      rw [← e2]
      exact h.2.2.2 i v hs hv
theorem aw_pl_len {ls : List Value} {i : Nat} : (aw_pl ls i).length = ls.length := by
  unfold aw_pl
  split
  · rfl
  · split <;> simp
theorem aw_pl_at {ls : List Value} {i j : Nat} {v : Value} (h : (aw_pl ls i)[j]? = some v) (hv : v ≠ .null) : ls[j]? = some v ∧ ¬ (j + 1 = i ∧ ((∃ x, v = .long x) ∨ ∃ x, v = .double x)) := by
  unfold aw_pl at h
  split at h
  · exact ⟨h, fun q => by omega⟩
  · rename_i k
    split at h
    · rename_i x hx
      by_cases e : k = j
      · subst e
        rw [List.getElem?_set_self (List.getElem?_eq_some_iff.mp hx).1] at h
        exact absurd (Option.some.inj h).symm hv
      · rw [List.getElem?_set_ne e] at h
        exact ⟨h, fun q => e (by omega)⟩
    · rename_i x hx
      by_cases e : k = j
      · subst e
        rw [List.getElem?_set_self (List.getElem?_eq_some_iff.mp hx).1] at h
        exact absurd (Option.some.inj h).symm hv
      · rw [List.getElem?_set_ne e] at h
        exact ⟨h, fun q => e (by omega)⟩
    · rename_i hx hy
      refine ⟨h, fun q => ?_⟩
      obtain ⟨q1, q2⟩ := q
      have e : j = k := by omega
      subst e
      rcases q2 with ⟨y, rfl⟩ | ⟨y, rfl⟩
      · exact hx y h
      · exact hy y h
theorem aw_cat2 {b : Nat} {xa : Nat → Nat} {v : Value} (h : (aw_cv b xa v).category = 2) : (∃ x, v = .long x) ∨ ∃ x, v = .double x := by
  cases v <;> simp [aw_cv, Value.category] at h ⊢
theorem aw_store1 {b : Nat} {xa : Nat → Nat} {n : Nat} {arr : Array Slot} {ls : List Value} {i : Nat} {v : Value} (h : aw_L b xa n arr ls) (hi : i < n) (hc : v.category = 1) (arr' : Array Slot) (hp : lv_has arr' n ((i, aw_cv b xa v) :: (aw_lv b xa ls).filter (fun q => !(q.1 == i) && !(q.1 + 1 == i && q.2.category == 2)))) : aw_L b xa n arr' (aw_st1 ls i v) := by
  refine ⟨hp.1, hp.2.1, by simp [aw_st1, aw_pl_len, h.2.2.1], fun j w hj hw => ?_⟩
  unfold aw_st1 at hj
  by_cases e : i = j
  · subst e
    rw [List.getElem?_set_self (by rw [aw_pl_len, h.2.2.1]; exact hi)] at hj
    rw [← Option.some.inj hj]
    exact hp.2.2 _ List.mem_cons_self
  · rw [List.getElem?_set_ne e] at hj
    obtain ⟨g1, g2⟩ := aw_pl_at hj hw
    refine hp.2.2 (j, aw_cv b xa w) (List.mem_cons_of_mem _ (List.mem_filter.mpr ⟨aw_lv_mem g1 hw, ?_⟩))
    have e1 : ¬ j = i := fun q => e q.symm
    have e2 : ¬ (j + 1 = i ∧ (aw_cv b xa w).category = 2) := fun q => g2 ⟨q.1, aw_cat2 q.2⟩
    simp only [Bool.and_eq_true, Bool.not_eq_true', beq_eq_false_iff_ne, ne_eq, Bool.and_eq_false_imp, beq_iff_eq]
    exact ⟨e1, fun q1 q2 => e2 ⟨q1, q2⟩⟩
theorem aw_store2 {b : Nat} {xa : Nat → Nat} {n : Nat} {arr : Array Slot} {ls : List Value} {i : Nat} {v : Value} (h : aw_L b xa n arr ls) (hi : i + 1 < n) (arr' : Array Slot) (hp : lv_has arr' n ((i, aw_cv b xa v) :: (aw_lv b xa ls).filter (fun q => !(q.1 == i) && (!(q.1 == i + 1) && !(q.1 + 1 == i && q.2.category == 2))))) : aw_L b xa n arr' (aw_st2 ls i v) := by
  refine ⟨hp.1, hp.2.1, by simp [aw_st2, aw_pl_len, h.2.2.1], fun j w hj hw => ?_⟩
  unfold aw_st2 at hj
  by_cases e0 : i + 1 = j
  · subst e0
    rw [List.getElem?_set_self (by rw [List.length_set, aw_pl_len, h.2.2.1]; exact hi)] at hj
    exact absurd (Option.some.inj hj).symm hw
  · rw [List.getElem?_set_ne e0] at hj
    by_cases e : i = j
    · subst e
      rw [List.getElem?_set_self (by rw [aw_pl_len, h.2.2.1]; omega)] at hj
      rw [← Option.some.inj hj]
      exact hp.2.2 _ List.mem_cons_self
    · rw [List.getElem?_set_ne e] at hj
      obtain ⟨g1, g2⟩ := aw_pl_at hj hw
      refine hp.2.2 (j, aw_cv b xa w) (List.mem_cons_of_mem _ (List.mem_filter.mpr ⟨aw_lv_mem g1 hw, ?_⟩))
      have e1 : ¬ j = i := fun q => e q.symm
      have e3 : ¬ j = i + 1 := fun q => e0 q.symm
      have e2 : ¬ (j + 1 = i ∧ (aw_cv b xa w).category = 2) := fun q => g2 ⟨q.1, aw_cat2 q.2⟩
      simp only [Bool.and_eq_true, Bool.not_eq_true', beq_eq_false_iff_ne, ne_eq, Bool.and_eq_false_imp, beq_iff_eq]
      exact ⟨e1, e3, fun q1 q2 => e2 ⟨q1, q2⟩⟩
