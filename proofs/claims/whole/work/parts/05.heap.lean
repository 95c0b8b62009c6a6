theorem aw_cnat : Cond.native arraycopyName ∈ aw_T := aw_in 552 (by decide +kernel) rfl
theorem aw_csta : Cond.static arraycopyName ∈ aw_T := aw_in 551 (by decide +kernel) rfl
theorem aw_cini : Cond.initialized "java/lang/System" ∈ aw_T := aw_in 18 (by decide +kernel) rfl
/-! the heap: fields, arrays, new cells; ends; calls; the start -/
section AWC
variable {M : aw_MI} {b : Nat} {D : va_G} {tc : Nat → ClassId} {xa : Nat → Nat} {p : Program} {s : State} {m : MethodId} {args : Array Value} {meth : Method} {c : Code}
theorem aw_C.ex (h : aw_C M b D tc xa p s m args meth c) : p.tables.exec = Jvm.exec := h.1
theorem aw_C.bt (h : aw_C M b D tc xa p s m args meth c) : c.code = M.2.1 := h.2.1
theorem aw_C.rt (h : aw_C M b D tc xa p s m args meth c) : meth.sig.returnType = M.2.2.2 := h.2.2.1
theorem aw_C.lk (h : aw_C M b D tc xa p s m args meth c) : meth.locks = false := h.2.2.2.1
theorem aw_C.ml (h : aw_C M b D tc xa p s m args meth c) : c.maxLocals = M.2.2.1 := h.2.2.2.2.1
theorem aw_C.ow (h : aw_C M b D tc xa p s m args meth c) : s.vm.findClass M.1.cls = some m.cls := h.2.2.2.2.2.1
theorem aw_C.ts (h : aw_C M b D tc xa p s m args meth c) : ∀ w ∈ aw_T, w.before args s = true := h.2.2.2.2.2.2.1
theorem aw_C.K (h : aw_C M b D tc xa p s m args meth c) : va_K D aw_cl (aw_tys tc) s := h.2.2.2.2.2.2.2.1
theorem aw_C.bs (h : aw_C M b D tc xa p s m args meth c) : b ≤ s.heap.size := h.2.2.2.2.2.2.2.2.1
theorem aw_C.nm (h : aw_C M b D tc xa p s m args meth c) : meth.name = M.1.name := h.2.2.2.2.2.2.2.2.2.1
theorem aw_C.X (h : aw_C M b D tc xa p s m args meth c) : aw_X b xa s := h.2.2.2.2.2.2.2.2.2.2
end AWC
/-- a field of a class, as its link names it -/
def aw_F (own : String) (idx ci j : Nat) (fin : Bool) : Prop := ∃ (C : String) (T : u_T) (N : Nat) (ty0 : Nat → FieldType), aw_cl[ci]? = some (C, T, N) ∧ (∀ w ∈ u_ws C T N, w ∈ aw_T) ∧ (∀ k, k < N → parseFieldDescriptor (T k).2.2.1 = some (ty0 k)) ∧ (∀ a, a < N → ∀ b, b < N → a ≠ b → (T a).2.1 ≠ (T b).2.1) ∧ N = aw_N ci ∧ j < N ∧ Cond.fieldLink own idx (T j).1 (T j).2.1 (T j).2.2.1 ∈ aw_T ∧ ty0 j = aw_ty ci j ∧ (T j).2.2.2 = fin ∧ (T j).1 = C
def aw_ok (ty : FieldType) : Bool := match ty with
  | .float => false
  | .double => false
  | _ => true
theorem aw_def {ty : FieldType} (h : aw_ok ty = true) (b : Nat) : defaultValue ty = aw_fv ty b 0 0 none := by
  cases ty <;> first | rfl | (simp [aw_ok] at h)
/-- a class whose objects can be made -/
def aw_NW (own : String) (idx ci : Nat) : Prop := ∃ (C : String) (T : u_T) (N : Nat) (ty0 : Nat → FieldType), aw_cl[ci]? = some (C, T, N) ∧ (∀ w ∈ u_ws C T N, w ∈ aw_T) ∧ (∀ k, k < N → parseFieldDescriptor (T k).2.2.1 = some (ty0 k)) ∧ N = aw_N ci ∧ Cond.classLink own idx C ∈ aw_T ∧ Cond.instantiable C N ∈ aw_T ∧ Cond.initialized C ∈ aw_T ∧ ∀ j, j < N → ty0 j = aw_ty ci j ∧ aw_ok (ty0 j) = true
/-- a method that can be called -/
def aw_K (M : aw_MI) (n : Nat) : Prop := Cond.code M.1 M.2.1 M.2.2.1 M.2.2.2 ∈ aw_T ∧ Cond.initialized M.1.cls ∈ aw_T ∧ (M.1.cls ≠ "java/lang/invoke/MethodHandle" ∧ M.1.cls ≠ "java/lang/invoke/VarHandle" ∧ (parseMethodDescriptor M.1.desc).map (fun d => d.parameters.length) = some n) ∧ M.2.2.1 ≤ 45 ∧ plainFor M.1 = true
def aw_z (S : aw_S) (k : Nat) : aw_S := (va_up S.1 k (fun _ => 0), va_up S.2.1 k (fun _ => 0), va_up S.2.2 k (fun _ => none))
theorem aw_Wpush {b : Nat} {tc : Nat → ClassId} {sh : aw_SH} {S : aw_S} {x : Nat × Nat} : aw_W b tc (sh ++ [x]) (aw_z S sh.length) = aw_W b tc sh S ++ [(b + sh.length, aw_E b tc x (fun _ => 0) (fun _ => 0) (fun _ => none))] := by
  apply List.ext_getElem?
  intro i
  by_cases h : i < sh.length
  · rw [List.getElem?_append_left (by rw [aw_wlen]; exact h)]
    simp only [aw_W, List.getElem?_mapIdx, List.getElem?_append_left h, aw_z]
    rw [va_up_ne _ _ (by omega), va_up_ne _ _ (by omega), va_up_ne _ _ (by omega)]
  · by_cases h2 : i = sh.length
    · subst h2
      rw [List.getElem?_append_right (by rw [aw_wlen]; exact Nat.le_refl _), aw_wlen]
      simp only [aw_W, List.getElem?_mapIdx, aw_z, va_up_self]
      simp
    · rw [List.getElem?_eq_none (by rw [aw_wlen]; simp; omega), List.getElem?_eq_none (by simp [aw_wlen]; omega)]
section AWS
variable {l : Launch} {M : aw_MI} {d mc ms : Nat} {G : aw_G} {ce sl pc : Nat} {ls st : List Value} {sh : aw_SH} {S : aw_S}
variable {b : Nat} {D : va_G} {tc : Nat → ClassId} {xa : Nat → Nat} {p : Program} {e : Env} {s : State} {m : MethodId} {args : Array Value} {below : List Frame} {meth : Method} {c : Code} {H : Heap} {locs : List Loc} {R : Room} {Q : State → Prop} {g : JFrame}
theorem aw_le (k : H.size ≤ s.heap.size + ce → W p l e R s m args below meth c H locs ce sl Q g) : W p l e R s m args below meth c H locs ce sl Q g := by
  intro T hT X
  have h1 : T.heap.size ≤ s.heap.size + ce := X.heapSize
  rw [hT] at h1
  exact k h1 T hT X
theorem aw_sz (hR : aw_R b D tc sh S H) (hz : b + sh.length = s.heap.size + ce) (hb : b ≤ s.heap.size) (hS : va_S (fun q => b ≤ q) s.heap H locs) (k : H.size = b + sh.length → W p l e R s m args below meth c H locs ce sl Q g) : W p l e R s m args below meth c H locs ce sl Q g := by
  refine aw_le fun h1 => k ?_
  have h2 : b + sh.length ≤ H.size := by
    cases hn : sh.length with
    | zero => have := hS.1; omega
    | succ n =>
      have hx : n < sh.length := by omega
      have h3 := (hR n _ (aw_get (List.getElem?_eq_getElem hx))).lt
      have h4 : b + n < H.size := h3
      omega
  omega
theorem aw_q {q : Nat} {x : va_E} {H1 : Heap} (hP : va_P D aw_cl (aw_W b tc sh S ++ [(q, x)]) H1) (hD : va_D (fun q => b ≤ q) (aw_W b tc sh S ++ [(q, x)])) (h : H1.size ≤ b + sh.length + 1) : q = b + sh.length := by
  have e1 : (aw_W b tc sh S ++ [(q, x)])[sh.length]? = some (q, x) := by
    rw [List.getElem?_append_right (by rw [aw_wlen]; exact Nat.le_refl _), aw_wlen]
    simp
  have h1 : q < H1.size := (hP _ _ e1).lt
  have h2 : b ≤ q := hD.2 _ _ e1
  by_cases h3 : q - b < sh.length
  · have e2 : (aw_W b tc sh S ++ [(q, x)])[q - b]? = some (b + (q - b), aw_E b tc sh[q - b] (S.1 (q - b)) (S.2.1 (q - b)) (S.2.2 (q - b))) := by
      rw [List.getElem?_append_left (by rw [aw_wlen]; exact h3)]
      exact aw_get (List.getElem?_eq_getElem h3)
    have h4 := hD.1 _ _ _ _ e1 e2 (by show q = b + (q - b); omega)
    omega
  · omega
end AWS
section AWR
variable {l : Launch} {M : aw_MI} {d mc ms : Nat} {G : aw_G} {ce sl pc : Nat} {ls st : List Value} {sh : aw_SH} {S : aw_S}

theorem r_getI {k ci j idx : Nat} {fin : Bool}  (hd : decode M.2.1 pc = .ok (.getfield idx, 3)) (hF : aw_F M.1.cls idx ci j fin) (hs : sh[k]? = some (0, ci)) (ht : aw_kI (aw_ty ci j) = true) (kk : AW l M d mc ms G ce sl (pc + 3) ls (.int (S.1 k j) :: st) sh S) : AW l M d mc ms G ce sl pc ls (.ref k :: st) sh S := fun b D tc xa p e s m args below meth c H locs arr hC hR hz hl hS => by
  obtain ⟨C, T, N, ty0, h1, h2, h3, h4, h5, h6, h7, h8, h9, h10⟩ := hF
  refine va_get hC.ex hC.bt hC.ts h2 hC.ow hC.K hR k (fs := aw_fs b ci (S.1 k) (S.2.1 k) (S.2.2 k)) (aw_get hs) h1 j h6 (hC.ts _ h7) (fun x h => h) (v := aw_cv b xa (.int (S.1 k j))) ?_ hd (kk b D tc xa p e s m args below meth c H locs arr hC hR hz hl hS)
  rw [aw_fs_at (by omega), aw_fvI ht]
  exact rfl --]
theorem r_getL {k ci j idx : Nat} {fin : Bool}  (hd : decode M.2.1 pc = .ok (.getfield idx, 3)) (hF : aw_F M.1.cls idx ci j fin) (hs : sh[k]? = some (0, ci)) (ht : aw_ty ci j = .long) (kk : AW l M d mc ms G ce sl (pc + 3) ls (.long (S.2.1 k j) :: st) sh S) : AW l M d mc ms G ce sl pc ls (.ref k :: st) sh S := fun b D tc xa p e s m args below meth c H locs arr hC hR hz hl hS => by
  obtain ⟨C, T, N, ty0, h1, h2, h3, h4, h5, h6, h7, h8, h9, h10⟩ := hF
  refine va_get hC.ex hC.bt hC.ts h2 hC.ow hC.K hR k (fs := aw_fs b ci (S.1 k) (S.2.1 k) (S.2.2 k)) (aw_get hs) h1 j h6 (hC.ts _ h7) (fun x h => h) (v := aw_cv b xa (.long (S.2.1 k j))) ?_ hd (kk b D tc xa p e s m args below meth c H locs arr hC hR hz hl hS)
  rw [aw_fs_at (by omega), ht]
  exact rfl --]
theorem r_getR {k ci j idx : Nat} {fin : Bool} {r : Nat} (hd : decode M.2.1 pc = .ok (.getfield idx, 3)) (hF : aw_F M.1.cls idx ci j fin) (hs : sh[k]? = some (0, ci)) (ht : (∃ q, aw_ty ci j = .object q) ∨ ∃ q, aw_ty ci j = .array q) (hr : S.2.2 k j = some r) (kk : AW l M d mc ms G ce sl (pc + 3) ls (.ref r :: st) sh S) : AW l M d mc ms G ce sl pc ls (.ref k :: st) sh S := fun b D tc xa p e s m args below meth c H locs arr hC hR hz hl hS => by
  obtain ⟨C, T, N, ty0, h1, h2, h3, h4, h5, h6, h7, h8, h9, h10⟩ := hF
  refine va_get hC.ex hC.bt hC.ts h2 hC.ow hC.K hR k (fs := aw_fs b ci (S.1 k) (S.2.1 k) (S.2.2 k)) (aw_get hs) h1 j h6 (hC.ts _ h7) (fun x h => h) (v := aw_cv b xa (.ref r)) ?_ hd (kk b D tc xa p e s m args below meth c H locs arr hC hR hz hl hS)
  rw [aw_fs_at (by omega)]
  rcases ht with ⟨q, ht⟩ | ⟨q, ht⟩ <;> rw [ht, hr] <;> exact rfl --]
theorem r_putI {k ci j idx : Nat} {x : Int32} (hd : decode M.2.1 pc = .ok (.putfield idx, 3)) (hF : aw_F M.1.cls idx ci j false) (hs : sh[k]? = some (0, ci)) (ht : aw_ty ci j = .int)  (kk : AW l M d mc ms G ce sl (pc + 3) ls st sh (aw_uI S k j x)) : AW l M d mc ms G ce sl pc ls (.int x :: .ref k :: st) sh S := fun b D tc xa p e s m args below meth c H locs arr hC hR hz hl hS => by
  obtain ⟨C, T, N, ty0, h1, h2, h3, h4, h5, h6, h7, h8, h9, h10⟩ := hF
  refine va_put hC.ex hC.bt hC.ts h2 ty0 h3 h4 hC.ow hC.K hR aw_D hS k (fs := aw_fs b ci (S.1 k) (S.2.1 k) (S.2.2 k)) (aw_get hs) h1 j h6 (hC.ts _ h7) (fun x h => h) h9 (ty := ty0 j) (v := aw_cv b xa (.int x)) (h3 j h6) (by rw [h8, ht]; rfl) (by rw [h8, ht]; rfl) (by rw [aw_fs_len]; omega) hd (fun H1 locs1 hP' hD' hS' => kk b D tc xa p e s m args below meth c H1 locs1 arr hC ?_ hz hl hS')
  rw [aw_set (S' := aw_uI S k j x) hs _ ?_ ?_] at hP'
  · exact hP'
  · show Sum.inr (ci, _) = Sum.inr (ci, _)
    congr 2
    refine aw_fs_set _ ?_ (by omega) ?_
    · rw [ht]; simp [aw_uI, va_up, upd, aw_fv, aw_cv]
    · intro i hi
      simp [aw_uI, aw_uL, aw_uR, va_up, upd, vp_updL, hi]
  · intro i hi
    simp [aw_uI, aw_uL, aw_uR, va_up, hi]
theorem r_putZ {k ci j idx : Nat} {x : Int32} (hd : decode M.2.1 pc = .ok (.putfield idx, 3)) (hF : aw_F M.1.cls idx ci j false) (hs : sh[k]? = some (0, ci)) (ht : aw_ty ci j = .boolean) (hx : x = 0 ∨ x = 1) (kk : AW l M d mc ms G ce sl (pc + 3) ls st sh (aw_uI S k j x)) : AW l M d mc ms G ce sl pc ls (.int x :: .ref k :: st) sh S := fun b D tc xa p e s m args below meth c H locs arr hC hR hz hl hS => by
  obtain ⟨C, T, N, ty0, h1, h2, h3, h4, h5, h6, h7, h8, h9, h10⟩ := hF
  refine va_put hC.ex hC.bt hC.ts h2 ty0 h3 h4 hC.ow hC.K hR aw_D hS k (fs := aw_fs b ci (S.1 k) (S.2.1 k) (S.2.2 k)) (aw_get hs) h1 j h6 (hC.ts _ h7) (fun x h => h) h9 (ty := ty0 j) (v := aw_cv b xa (.int x)) (h3 j h6) (by rw [h8, ht]; rcases hx with rfl | rfl <;> rfl) (by rw [h8, ht]; rcases hx with rfl | rfl <;> rfl) (by rw [aw_fs_len]; omega) hd (fun H1 locs1 hP' hD' hS' => kk b D tc xa p e s m args below meth c H1 locs1 arr hC ?_ hz hl hS')
  rw [aw_set (S' := aw_uI S k j x) hs _ ?_ ?_] at hP'
  · exact hP'
  · show Sum.inr (ci, _) = Sum.inr (ci, _)
    congr 2
    refine aw_fs_set _ ?_ (by omega) ?_
    · rw [ht]; simp [aw_uI, va_up, upd, aw_fv, aw_cv]
    · intro i hi
      simp [aw_uI, aw_uL, aw_uR, va_up, upd, vp_updL, hi]
  · intro i hi
    simp [aw_uI, aw_uL, aw_uR, va_up, hi]
theorem r_putL {k ci j idx : Nat} {x : Int64} (hd : decode M.2.1 pc = .ok (.putfield idx, 3)) (hF : aw_F M.1.cls idx ci j false) (hs : sh[k]? = some (0, ci)) (ht : aw_ty ci j = .long)  (kk : AW l M d mc ms G ce sl (pc + 3) ls st sh (aw_uL S k j x)) : AW l M d mc ms G ce sl pc ls (.long x :: .ref k :: st) sh S := fun b D tc xa p e s m args below meth c H locs arr hC hR hz hl hS => by
  obtain ⟨C, T, N, ty0, h1, h2, h3, h4, h5, h6, h7, h8, h9, h10⟩ := hF
  refine va_put hC.ex hC.bt hC.ts h2 ty0 h3 h4 hC.ow hC.K hR aw_D hS k (fs := aw_fs b ci (S.1 k) (S.2.1 k) (S.2.2 k)) (aw_get hs) h1 j h6 (hC.ts _ h7) (fun x h => h) h9 (ty := ty0 j) (v := aw_cv b xa (.long x)) (h3 j h6) (by rw [h8, ht]; rfl) (by rw [h8, ht]; rfl) (by rw [aw_fs_len]; omega) hd (fun H1 locs1 hP' hD' hS' => kk b D tc xa p e s m args below meth c H1 locs1 arr hC ?_ hz hl hS')
  rw [aw_set (S' := aw_uL S k j x) hs _ ?_ ?_] at hP'
  · exact hP'
  · show Sum.inr (ci, _) = Sum.inr (ci, _)
    congr 2
    refine aw_fs_set _ ?_ (by omega) ?_
    · rw [ht]; simp [aw_uL, va_up, vp_updL, aw_fv, aw_cv]
    · intro i hi
      simp [aw_uI, aw_uL, aw_uR, va_up, upd, vp_updL, hi]
  · intro i hi
    simp [aw_uI, aw_uL, aw_uR, va_up, hi]
theorem r_putR {k ci j idx : Nat} {r : Nat} (hd : decode M.2.1 pc = .ok (.putfield idx, 3)) (hF : aw_F M.1.cls idx ci j false) (hs : sh[k]? = some (0, ci)) (ht : (∃ q, aw_ty ci j = .object q) ∨ ∃ q, aw_ty ci j = .array q)  (kk : AW l M d mc ms G ce sl (pc + 3) ls st sh (aw_uR S k j (some r))) : AW l M d mc ms G ce sl pc ls (.ref r :: .ref k :: st) sh S := fun b D tc xa p e s m args below meth c H locs arr hC hR hz hl hS => by
  obtain ⟨C, T, N, ty0, h1, h2, h3, h4, h5, h6, h7, h8, h9, h10⟩ := hF
  refine va_put hC.ex hC.bt hC.ts h2 ty0 h3 h4 hC.ow hC.K hR aw_D hS k (fs := aw_fs b ci (S.1 k) (S.2.1 k) (S.2.2 k)) (aw_get hs) h1 j h6 (hC.ts _ h7) (fun x h => h) h9 (ty := ty0 j) (v := aw_cv b xa (.ref r)) (h3 j h6) (by rw [h8]; rcases ht with ⟨q, ht⟩ | ⟨q, ht⟩ <;> rw [ht] <;> rfl) (by rw [h8]; rcases ht with ⟨q, ht⟩ | ⟨q, ht⟩ <;> rw [ht] <;> rfl) (by rw [aw_fs_len]; omega) hd (fun H1 locs1 hP' hD' hS' => kk b D tc xa p e s m args below meth c H1 locs1 arr hC ?_ hz hl hS')
  rw [aw_set (S' := aw_uR S k j (some r)) hs _ ?_ ?_] at hP'
  · exact hP'
  · show Sum.inr (ci, _) = Sum.inr (ci, _)
    congr 2
    refine aw_fs_set _ ?_ (by omega) ?_
    · rcases ht with ⟨q, ht⟩ | ⟨q, ht⟩ <;> rw [ht] <;> simp [aw_uR, va_up, aw_fv, aw_cv, va_rf]
    · intro i hi
      simp [aw_uI, aw_uL, aw_uR, va_up, upd, vp_updL, hi]
  · intro i hi
    simp [aw_uI, aw_uL, aw_uR, va_up, hi]
theorem r_putRF {k ci j idx : Nat} {r : Nat} (hd : decode M.2.1 pc = .ok (.putfield idx, 3)) (hF : aw_F M.1.cls idx ci j true) (hs : sh[k]? = some (0, ci)) (ht : (∃ q, aw_ty ci j = .object q) ∨ ∃ q, aw_ty ci j = .array q) (hn : M.1.name = "<init>") (hw0 : aw_cl[ci]?.map (fun q => q.1) = some M.1.cls) (kk : AW l M d mc ms G ce sl (pc + 3) ls st sh (aw_uR S k j (some r))) : AW l M d mc ms G ce sl pc ls (.ref r :: .ref k :: st) sh S := fun b D tc xa p e s m args below meth c H locs arr hC hR hz hl hS => by
  obtain ⟨C, T, N, ty0, h1, h2, h3, h4, h5, h6, h7, h8, h9, h10⟩ := hF
  refine va_putF hC.ex hC.bt hC.ts h2 ty0 h3 h4 hC.ow hC.K hR aw_D hS k (fs := aw_fs b ci (S.1 k) (S.2.1 k) (S.2.2 k)) (aw_get hs) h1 j h6 (hC.ts _ h7) (fun x h => h) h9 (hC.nm.trans hn) (h10.trans (by rw [h1] at hw0; exact Option.some.inj hw0)) (ty := ty0 j) (v := aw_cv b xa (.ref r)) (h3 j h6) (by rw [h8]; rcases ht with ⟨q, ht⟩ | ⟨q, ht⟩ <;> rw [ht] <;> rfl) (by rw [h8]; rcases ht with ⟨q, ht⟩ | ⟨q, ht⟩ <;> rw [ht] <;> rfl) (by rw [aw_fs_len]; omega) hd (fun H1 locs1 hP' hD' hS' => kk b D tc xa p e s m args below meth c H1 locs1 arr hC ?_ hz hl hS')
  rw [aw_set (S' := aw_uR S k j (some r)) hs _ ?_ ?_] at hP'
  · exact hP'
  · show Sum.inr (ci, _) = Sum.inr (ci, _)
    congr 2
    refine aw_fs_set _ ?_ (by omega) ?_
    · rcases ht with ⟨q, ht⟩ | ⟨q, ht⟩ <;> rw [ht] <;> simp [aw_uR, va_up, aw_fv, aw_cv, va_rf]
    · intro i hi
      simp [aw_uI, aw_uL, aw_uR, va_up, upd, vp_updL, hi]
  · intro i hi
    simp [aw_uI, aw_uL, aw_uR, va_up, hi]
theorem r_bald {k n : Nat} {i : Int32} (hd : decode M.2.1 pc = .ok (.baload, 1)) (hs : sh[k]? = some (1, n)) (hi : vp_in i n) (kk : AW l M d mc ms G ce sl (pc + 1) ls (.int (S.1 k i.toNatClampNeg) :: st) sh S) : AW l M d mc ms G ce sl pc ls (.int i :: .ref k :: st) sh S := fun b D tc xa p e s m args below meth c H locs arr hC hR hz hl hS => va_bald hC.ex hC.bt hC.K hR k 0 (aw_get hs) rfl hi hd (kk b D tc xa p e s m args below meth c H locs arr hC hR hz hl hS)
theorem r_zald {k n : Nat} {i : Int32} (hd : decode M.2.1 pc = .ok (.baload, 1)) (hs : sh[k]? = some (2, n)) (hi : vp_in i n) (kk : AW l M d mc ms G ce sl (pc + 1) ls (.int (S.1 k i.toNatClampNeg) :: st) sh S) : AW l M d mc ms G ce sl pc ls (.int i :: .ref k :: st) sh S := fun b D tc xa p e s m args below meth c H locs arr hC hR hz hl hS => va_zald hC.ex hC.bt hC.K hR k 1 (aw_get hs) rfl hi hd (kk b D tc xa p e s m args below meth c H locs arr hC hR hz hl hS)
theorem r_iald {k n : Nat} {i : Int32} (hd : decode M.2.1 pc = .ok (.iaload, 1)) (hs : sh[k]? = some (3, n)) (hi : vp_in i n) (kk : AW l M d mc ms G ce sl (pc + 1) ls (.int (S.1 k i.toNatClampNeg) :: st) sh S) : AW l M d mc ms G ce sl pc ls (.int i :: .ref k :: st) sh S := fun b D tc xa p e s m args below meth c H locs arr hC hR hz hl hS => va_iald hC.ex hC.bt hC.K hR k 2 (aw_get hs) rfl hi hd (kk b D tc xa p e s m args below meth c H locs arr hC hR hz hl hS)
theorem r_lald {k n : Nat} {i : Int32} (hd : decode M.2.1 pc = .ok (.laload, 1)) (hs : sh[k]? = some (4, n)) (hi : vp_in i n) (kk : AW l M d mc ms G ce sl (pc + 1) ls (.long (S.2.1 k i.toNatClampNeg) :: st) sh S) : AW l M d mc ms G ce sl pc ls (.int i :: .ref k :: st) sh S := fun b D tc xa p e s m args below meth c H locs arr hC hR hz hl hS => va_lald hC.ex hC.bt hC.K hR k 3 (aw_get hs) rfl hi hd (kk b D tc xa p e s m args below meth c H locs arr hC hR hz hl hS)
theorem r_bast {k n : Nat} {i : Int32} {x : Int32} (hd : decode M.2.1 pc = .ok (.bastore, 1)) (hs : sh[k]? = some (1, n)) (hi : vp_in i n) (kk : AW l M d mc ms G ce sl (pc + 1) ls st sh (aw_uI S k i.toNatClampNeg (vp_nar .byte x))) : AW l M d mc ms G ce sl pc ls (.int x :: .int i :: .ref k :: st) sh S := fun b D tc xa p e s m args below meth c H locs arr hC hR hz hl hS => va_bast hC.ex hC.bt hC.K hR aw_D hS k 0 (aw_get hs) rfl hi hd (fun H1 locs1 hP' hD' hS' => kk b D tc xa p e s m args below meth c H1 locs1 arr hC (by
    rw [aw_set (S' := aw_uI S k i.toNatClampNeg (vp_nar .byte x)) hs _ ?_ ?_] at hP'
    · exact hP'
    · show Sum.inl _ = Sum.inl _
      simp [aw_uI, aw_uL, va_up, aw_ar]
    · intro i hi
      simp [aw_uI, aw_uL, va_up, hi]) hz hl hS')
theorem r_zast {k n : Nat} {i : Int32} {x : Int32} (hd : decode M.2.1 pc = .ok (.bastore, 1)) (hs : sh[k]? = some (2, n)) (hi : vp_in i n) (kk : AW l M d mc ms G ce sl (pc + 1) ls st sh (aw_uI S k i.toNatClampNeg (vp_nar .boolean x))) : AW l M d mc ms G ce sl pc ls (.int x :: .int i :: .ref k :: st) sh S := fun b D tc xa p e s m args below meth c H locs arr hC hR hz hl hS => va_zast hC.ex hC.bt hC.K hR aw_D hS k 1 (aw_get hs) rfl hi hd (fun H1 locs1 hP' hD' hS' => kk b D tc xa p e s m args below meth c H1 locs1 arr hC (by
    rw [aw_set (S' := aw_uI S k i.toNatClampNeg (vp_nar .boolean x)) hs _ ?_ ?_] at hP'
    · exact hP'
    · show Sum.inl _ = Sum.inl _
      simp [aw_uI, aw_uL, va_up, aw_ar]
    · intro i hi
      simp [aw_uI, aw_uL, va_up, hi]) hz hl hS')
theorem r_iast {k n : Nat} {i : Int32} {x : Int32} (hd : decode M.2.1 pc = .ok (.iastore, 1)) (hs : sh[k]? = some (3, n)) (hi : vp_in i n) (kk : AW l M d mc ms G ce sl (pc + 1) ls st sh (aw_uI S k i.toNatClampNeg x)) : AW l M d mc ms G ce sl pc ls (.int x :: .int i :: .ref k :: st) sh S := fun b D tc xa p e s m args below meth c H locs arr hC hR hz hl hS => va_iast hC.ex hC.bt hC.K hR aw_D hS k 2 (aw_get hs) rfl hi hd (fun H1 locs1 hP' hD' hS' => kk b D tc xa p e s m args below meth c H1 locs1 arr hC (by
    rw [aw_set (S' := aw_uI S k i.toNatClampNeg x) hs _ ?_ ?_] at hP'
    · exact hP'
    · show Sum.inl _ = Sum.inl _
      simp [aw_uI, aw_uL, va_up, aw_ar]
    · intro i hi
      simp [aw_uI, aw_uL, va_up, hi]) hz hl hS')
theorem r_last {k n : Nat} {i : Int32} {x : Int64} (hd : decode M.2.1 pc = .ok (.lastore, 1)) (hs : sh[k]? = some (4, n)) (hi : vp_in i n) (kk : AW l M d mc ms G ce sl (pc + 1) ls st sh (aw_uL S k i.toNatClampNeg x)) : AW l M d mc ms G ce sl pc ls (.long x :: .int i :: .ref k :: st) sh S := fun b D tc xa p e s m args below meth c H locs arr hC hR hz hl hS => va_last hC.ex hC.bt hC.K hR aw_D hS k 3 (aw_get hs) rfl hi hd (fun H1 locs1 hP' hD' hS' => kk b D tc xa p e s m args below meth c H1 locs1 arr hC (by
    rw [aw_set (S' := aw_uL S k i.toNatClampNeg x) hs _ ?_ ?_] at hP'
    · exact hP'
    · show Sum.inl _ = Sum.inl _
      simp [aw_uI, aw_uL, va_up, aw_ar]
    · intro i hi
      simp [aw_uI, aw_uL, va_up, hi]) hz hl hS')
theorem r_aald5 {k n r : Nat} {i : Int32} (hd : decode M.2.1 pc = .ok (.aaload, 1)) (hs : sh[k]? = some (5, n)) (hi : vp_in i n) (hr : S.2.2 k i.toNatClampNeg = some r) (kk : AW l M d mc ms G ce sl (pc + 1) ls (.ref r :: st) sh S) : AW l M d mc ms G ce sl pc ls (.int i :: .ref k :: st) sh S := fun b D tc xa p e s m args below meth c H locs arr hC hR hz hl hS => va_aldq hC.ex hC.bt hC.K hR k 4 (aw_get hs) rfl hi hd (by
  show W _ _ _ _ _ _ _ _ _ _ _ _ _ _ _ (F0 m (pc + 1) arr (va_rf ((S.2.2 k i.toNatClampNeg).map (b + ·)) :: _))
  rw [hr]
  exact kk b D tc xa p e s m args below meth c H locs arr hC hR hz hl hS)
theorem r_aast5 {k n r : Nat} {i : Int32} (hd : decode M.2.1 pc = .ok (.aastore, 1)) (hs : sh[k]? = some (5, n)) (hi : vp_in i n) (hv : sh[r]? = some (0, 1)) (kk : AW l M d mc ms G ce sl (pc + 1) ls st sh (aw_uR S k i.toNatClampNeg (some r))) : AW l M d mc ms G ce sl pc ls (.ref r :: .int i :: .ref k :: st) sh S := fun b D tc xa p e s m args below meth c H locs arr hC hR hz hl hS => va_astq hC.ex hC.bt hC.K hR aw_D hS k 4 r 1 (aw_get hs) rfl (aw_get hv) rfl hi hd (fun H1 locs1 hP' hD' hS' => kk b D tc xa p e s m args below meth c H1 locs1 arr hC (by
    rw [aw_set (S' := aw_uR S k i.toNatClampNeg (some r)) hs _ ?_ ?_] at hP'
    · exact hP'
    · show Sum.inl _ = Sum.inl _
      have e : va_up (fun j => (S.2.2 k j).map (b + ·)) i.toNatClampNeg (some (b + r)) = fun j => (va_up (S.2.2 k) i.toNatClampNeg (some r) j).map (b + ·) := by
        funext j
        by_cases hj : j = i.toNatClampNeg <;> simp [va_up, hj]
      simp only [aw_uR, aw_ar, va_up_self]
      rw [e]
      rfl
    · intro i hi
      simp [aw_uR, va_up, hi]) hz hl hS')
theorem r_aald6 {k n r : Nat} {i : Int32} (hd : decode M.2.1 pc = .ok (.aaload, 1)) (hs : sh[k]? = some (6, n)) (hi : vp_in i n) (hr : S.2.2 k i.toNatClampNeg = some r) (kk : AW l M d mc ms G ce sl (pc + 1) ls (.ref r :: st) sh S) : AW l M d mc ms G ce sl pc ls (.int i :: .ref k :: st) sh S := fun b D tc xa p e s m args below meth c H locs arr hC hR hz hl hS => va_aldq hC.ex hC.bt hC.K hR k 5 (aw_get hs) rfl hi hd (by
  show W _ _ _ _ _ _ _ _ _ _ _ _ _ _ _ (F0 m (pc + 1) arr (va_rf ((S.2.2 k i.toNatClampNeg).map (b + ·)) :: _))
  rw [hr]
  exact kk b D tc xa p e s m args below meth c H locs arr hC hR hz hl hS)
theorem r_aast6 {k n r : Nat} {i : Int32} (hd : decode M.2.1 pc = .ok (.aastore, 1)) (hs : sh[k]? = some (6, n)) (hi : vp_in i n) (hv : sh[r]? = some (0, 2)) (kk : AW l M d mc ms G ce sl (pc + 1) ls st sh (aw_uR S k i.toNatClampNeg (some r))) : AW l M d mc ms G ce sl pc ls (.ref r :: .int i :: .ref k :: st) sh S := fun b D tc xa p e s m args below meth c H locs arr hC hR hz hl hS => va_astq hC.ex hC.bt hC.K hR aw_D hS k 5 r 2 (aw_get hs) rfl (aw_get hv) rfl hi hd (fun H1 locs1 hP' hD' hS' => kk b D tc xa p e s m args below meth c H1 locs1 arr hC (by
    rw [aw_set (S' := aw_uR S k i.toNatClampNeg (some r)) hs _ ?_ ?_] at hP'
    · exact hP'
    · show Sum.inl _ = Sum.inl _
      have e : va_up (fun j => (S.2.2 k j).map (b + ·)) i.toNatClampNeg (some (b + r)) = fun j => (va_up (S.2.2 k) i.toNatClampNeg (some r) j).map (b + ·) := by
        funext j
        by_cases hj : j = i.toNatClampNeg <;> simp [va_up, hj]
      simp only [aw_uR, aw_ar, va_up_self]
      rw [e]
      rfl
    · intro i hi
      simp [aw_uR, va_up, hi]) hz hl hS')
theorem r_alen {k n t : Nat} (hd : decode M.2.1 pc = .ok (.arraylength, 1)) (hs : sh[k]? = some (t + 1, n)) (ht : t < 6) (kk : AW l M d mc ms G ce sl (pc + 1) ls (.int (nI n) :: st) sh S) : AW l M d mc ms G ce sl pc ls (.ref k :: st) sh S := fun b D tc xa p e s m args below meth c H locs arr hC hR hz hl hS => va_alen hC.ex hC.bt hC.K hR k t (aw_get hs) (ty := aw_at t) (by rcases (show t = 0 ∨ t = 1 ∨ t = 2 ∨ t = 3 ∨ t = 4 ∨ t = 5 by omega) with rfl | rfl | rfl | rfl | rfl | rfl <;> rfl) rfl hd (kk b D tc xa p e s m args below meth c H locs arr hC hR hz hl hS)
def aw_cpi (S : aw_S) (k1 k2 : Nat) (sp dp n : Int32) : aw_S := (va_up S.1 k2 (va_cpy (S.1 k1) (S.1 k2) sp.toNatClampNeg dp.toNatClampNeg n.toNatClampNeg), S.2.1, S.2.2)
theorem r_copyi {k1 k2 n1 n2 idx : Nat} {sp dp n : Int32} (hd : decode M.2.1 pc = .ok (.invokestatic idx, 3)) (hlk : Cond.methodLink M.1.cls idx arraycopyName ∈ aw_T) (h1 : sh[k1]? = some (3, n1)) (h2 : sh[k2]? = some (3, n2)) (g1 : ¬ sp < 0) (g2 : ¬ dp < 0) (g3 : ¬ n < 0) (g4 : sp.toNatClampNeg + n.toNatClampNeg ≤ n1) (g5 : dp.toNatClampNeg + n.toNatClampNeg ≤ n2) (hst : (st.map fun v => v.category).sum ≤ 8) (kk : AW l M (d + 1) mc ms G ce sl (pc + 3) ls st sh (aw_cpi S k1 k2 sp dp n)) : AW l M (d + 1) mc ms G ce sl pc ls (.int n :: .int dp :: .ref k2 :: .int sp :: .ref k1 :: st) sh S := fun b D tc xa p e s m args below meth c H locs arr hC hR hz hl hS => va_copyi hC.ex hC.bt (hC.ml.trans hl.1.symm) hC.ow (hC.ts _ hlk) (hC.ts _ aw_cnat) (hC.ts _ aw_csta) (hC.ts _ aw_cini) hC.K hR aw_D hS k1 k2 2 2 (aw_get h1) (aw_get h2) rfl rfl rfl g1 g2 g3 g4 g5 (fun i _ => rfl) (Nat.succ_le_succ (Nat.zero_le _)) (by rw [aw_cv_sum]; show _ ≤ 64 * (d + 1) + 64; have h : nativeFrameWords "java/lang/System" "arraycopy" 5 + 11 ≤ 100 := (by decide +kernel); omega) hd (fun H1 locs1 hP' hD' hS' => kk b D tc xa p e s m args below meth c H1 locs1 arr hC (by
    rw [aw_set (S' := aw_cpi S k1 k2 sp dp n) h2 _ ?_ ?_] at hP'
    · exact hP'
    · show Sum.inl _ = Sum.inl _
      simp [aw_cpi, va_up, aw_ar]
    · intro i hi
      simp [aw_cpi, va_up, hi]) hz hl hS')
def aw_cpl (S : aw_S) (k1 k2 : Nat) (sp dp n : Int32) : aw_S := (S.1, va_up S.2.1 k2 (va_cpy (S.2.1 k1) (S.2.1 k2) sp.toNatClampNeg dp.toNatClampNeg n.toNatClampNeg), S.2.2)
theorem r_copyl {k1 k2 n1 n2 idx : Nat} {sp dp n : Int32} (hd : decode M.2.1 pc = .ok (.invokestatic idx, 3)) (hlk : Cond.methodLink M.1.cls idx arraycopyName ∈ aw_T) (h1 : sh[k1]? = some (4, n1)) (h2 : sh[k2]? = some (4, n2)) (g1 : ¬ sp < 0) (g2 : ¬ dp < 0) (g3 : ¬ n < 0) (g4 : sp.toNatClampNeg + n.toNatClampNeg ≤ n1) (g5 : dp.toNatClampNeg + n.toNatClampNeg ≤ n2) (hst : (st.map fun v => v.category).sum ≤ 8) (kk : AW l M (d + 1) mc ms G ce sl (pc + 3) ls st sh (aw_cpl S k1 k2 sp dp n)) : AW l M (d + 1) mc ms G ce sl pc ls (.int n :: .int dp :: .ref k2 :: .int sp :: .ref k1 :: st) sh S := fun b D tc xa p e s m args below meth c H locs arr hC hR hz hl hS => va_copyl hC.ex hC.bt (hC.ml.trans hl.1.symm) hC.ow (hC.ts _ hlk) (hC.ts _ aw_cnat) (hC.ts _ aw_csta) (hC.ts _ aw_cini) hC.K hR aw_D hS k1 k2 3 3 (aw_get h1) (aw_get h2) rfl rfl rfl g1 g2 g3 g4 g5 (fun i _ => rfl) (Nat.succ_le_succ (Nat.zero_le _)) (by rw [aw_cv_sum]; show _ ≤ 64 * (d + 1) + 64; have h : nativeFrameWords "java/lang/System" "arraycopy" 5 + 11 ≤ 100 := (by decide +kernel); omega) hd (fun H1 locs1 hP' hD' hS' => kk b D tc xa p e s m args below meth c H1 locs1 arr hC (by
    rw [aw_set (S' := aw_cpl S k1 k2 sp dp n) h2 _ ?_ ?_] at hP'
    · exact hP'
    · show Sum.inl _ = Sum.inl _
      simp [aw_cpl, va_up, aw_ar]
    · intro i hi
      simp [aw_cpl, va_up, hi]) hz hl hS')
end AWR
