/-! what a method gives: an int, a long, nothing, a reference; no cell is made -/
abbrev gI (sh : aw_SH) (P : Int32 → aw_S → Prop) : aw_G := fun r sh' S' => sh' = sh ∧ ∃ x, r = some (.int x) ∧ P x S'
abbrev gL (sh : aw_SH) (P : Int64 → aw_S → Prop) : aw_G := fun r sh' S' => sh' = sh ∧ ∃ x, r = some (.long x) ∧ P x S'
abbrev gV (sh : aw_SH) (P : aw_S → Prop) : aw_G := fun r sh' S' => sh' = sh ∧ r = none ∧ P S'
abbrev gR (sh : aw_SH) (P : Nat → aw_S → Prop) : aw_G := fun r sh' S' => sh' = sh ∧ ∃ x, r = some (.ref x) ∧ P x S'
theorem Sp.mono {l : Launch} {M : aw_MI} {d mc ms : Nat} {vs : List Value} {sh : aw_SH} {S : aw_S} {G1 G2 : aw_G} (h : Sp l M d mc ms vs sh S G1) (k : ∀ (r : Option Value) (sh' : aw_SH) (S' : aw_S), G1 r sh' S' → G2 r sh' S') : Sp l M d mc ms vs sh S G2 := by
  intro b D tc xa p e ha hc hk s m args below hf happ hP hK
  obtain ⟨n, o, h1, h2, h3, ⟨⟨⟨r, sh', S', hg, h4⟩, h5⟩, h6⟩⟩ := h b D tc xa p e ha hc hk s m args below hf happ hP hK
  exact ⟨n, o, h1, h2, h3, ⟨⟨⟨r, sh', S', k _ _ _ hg, h4⟩, h5⟩, h6⟩⟩
/-- fewer slots known -/
def aw_sub : List Value → List Value → Prop
  | [], [] => True
  | v :: a, w :: b => (v = .null ∨ v = w) ∧ aw_sub a b
  | _, _ => False
theorem aw_sub_at : ∀ (a b : List Value), aw_sub a b → a.length = b.length ∧ ∀ (i : Nat) (v : Value), a[i]? = some v → v ≠ .null → b[i]? = some v
  | [], [], _ => ⟨rfl, fun i v h => by simp at h⟩
  | v :: a, w :: b, h => by
    obtain ⟨h1, h2⟩ := aw_sub_at a b h.2
    refine ⟨by simp [h1], fun i u hi hu => ?_⟩
    cases i with
    | zero =>
      have e : v = u := Option.some.inj hi
      subst e
      rcases h.1 with q | q
      · exact absurd q hu
      · rw [q]; rfl
    | succ i => exact h2 i u hi hu
  | [], _ :: _, h => h.elim
  | _ :: _, [], h => h.elim
theorem r_weak {l : Launch} {M : aw_MI} {d mc ms : Nat} {G : aw_G} {ce sl pc : Nat} {ls ls2 st : List Value} {sh : aw_SH} {S : aw_S} (h : aw_sub ls2 ls) (k : AW l M d mc ms G ce sl pc ls2 st sh S) : AW l M d mc ms G ce sl pc ls st sh S := fun b D tc xa p e s m args below meth c H locs arr hC hR hz hl hS => by
  obtain ⟨h1, h2⟩ := aw_sub_at _ _ h
  exact k b D tc xa p e s m args below meth c H locs arr hC hR hz ⟨hl.1, hl.2.1, h1.trans hl.2.2.1, fun i v hi hv => hl.2.2.2 i v (h2 i v hi hv) hv⟩ hS
theorem r_ldcw {l : Launch} {M : aw_MI} {d mc ms : Nat} {G : aw_G} {ce sl pc : Nat} {ls st : List Value} {sh : aw_SH} {S : aw_S} {idx : Nat} {v : Int32} (hd : decode M.2.1 pc = .ok (.ldc_w idx, 3)) (hc : Cond.constant M.1.cls idx v ∈ aw_T) (k : AW l M d mc ms G ce sl (pc + 3) ls (.int v :: st) sh S) : AW l M d mc ms G ce sl pc ls st sh S := fun b D tc xa p e s m args below meth c H locs arr hC hR hz hl hS => lv_ldcw hC.1 hC.2.1 hC.ow (hC.ts _ hc) hd (k b D tc xa p e s m args below meth c H locs arr hC hR hz hl hS)
theorem aw_sw (x : Int32) (lo hi : Int) : (x.toInt < lo ∨ hi < x.toInt) ∨ ∃ k : Nat, x.toInt = lo + k ∧ lo + k ≤ hi := by
  by_cases h : x.toInt < lo ∨ hi < x.toInt
  · exact Or.inl h
  · exact Or.inr ⟨(x.toInt - lo).toNat, by omega, by omega⟩
theorem aw_ix {x y : Int32} {a : Int} (h : x.toInt = a) (hy : y.toInt = a) : x = y := Int32.toInt_inj.mp (by rw [h, hy])
theorem aw_nb {v : Int32} (h : v = 0 ∨ v = 1) : narrow .boolean (.int v) = .int v := by rcases h with rfl | rfl <;> rfl
theorem aw_oi : Cond.instanceMethod Lib.objectInit ∈ aw_T := aw_in 28 (by decide +kernel) rfl
theorem aw_oc : Cond.code Lib.objectInit ⟨#[0xb1]⟩ 1 none ∈ aw_T := aw_in 29 (by decide +kernel) rfl
