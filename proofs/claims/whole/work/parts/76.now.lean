/-! the green that is now, on both sides -/
def InR (x : Int32) (N : Nat) : Prop := ∃ j, j < N ∧ x = nI j
theorem inR_iff {x : Int32} {N : Nat} (hN : N ≤ 60) : (0 ≤ x ∧ x ≤ nI N - 1) ↔ InR x N := by
  rw [le_pred hN]
  constructor
  · rintro ⟨h1, h2⟩
    obtain ⟨j, hj, e⟩ := nI_of (Int32.not_lt.mpr h1)
    subst e
    exact ⟨j, (nI_ltI hj (by omega)).mp h2, rfl⟩
  · rintro ⟨j, h1, rfl⟩
    exact ⟨nI_pos' (by omega), nI_lt h1 (by omega)⟩
theorem inR_n {x : Int32} {N : Nat} (hN : N ≤ 60) (h : ¬ x < 0) : nI N ≤ x ↔ ¬ InR x N := by
  obtain ⟨j, hj, e⟩ := nI_of h
  subst e
  constructor
  · rintro h1 ⟨i, h2, h3⟩
    have := (nI_inj hj (by omega)).mp h3
    have := (nI_leI (by omega) hj).mp h1
    omega
  · intro h1
    exact nI_le (Nat.not_lt.mp (fun z => h1 ⟨j, z, rfl⟩)) hj
theorem inR_neg {x : Int32} {N : Nat} (hN : N ≤ 60) (h : x < 0) : ¬ InR x N := by
  rintro ⟨j, h1, rfl⟩
  exact absurd h (nI_pos (by omega))
section NW
variable {l : Launch} {d : Nat} {S : aw_S} {a n : Nat}
theorem sp_Mg_isGap {P : Int32 → aw_S → Prop} {x : Int32} (ha : S.2.2 0 6 = some a) (sa : sh0[a]? = some (0, 2)) (hn : n ≤ 7) (h0 : S.1 a 0 = nI n) (h1 : InR x (gpN n) → P 1 S) (h2 : ¬ InR x (gpN n) → P 0 S) : Sp l m_Mg_isGap (d + 1 + 1) 0 0 [.ref 0, .int x] sh0 S (gI sh0 P) := by
  have := gp_le n
  refine e_Mg_isGap rfl ⟨a, ha, sa, sp_Gr_gaps sa hn h0 (sp_isWithin ?_)⟩
  by_cases c : InR x (gpN n)
  · rw [if_pos ((inR_iff (by omega)).mpr c)]
    exact ⟨Or.inr rfl, h1 c⟩
  · rw [if_neg (fun z => c ((inR_iff (by omega)).mp z))]
    exact ⟨Or.inl rfl, h2 c⟩
theorem sp_Mg_isDancer {P : Int32 → aw_S → Prop} {x : Int32} (ha : S.2.2 0 6 = some a) (sa : sh0[a]? = some (0, 2)) (hn : n ≤ 7) (h0 : S.1 a 0 = nI n) (h1 : InR x n → P 1 S) (h2 : ¬ InR x n → P 0 S) : Sp l m_Mg_isDancer (d + 1 + 1) 0 0 [.ref 0, .int x] sh0 S (gI sh0 P) := by
  refine e_Mg_isDancer rfl ⟨a, ha, sa, ?_⟩
  rw [h0]
  refine sp_isWithin ?_
  by_cases c : InR x n
  · rw [if_pos ((inR_iff (by omega)).mpr c)]
    exact ⟨Or.inr rfl, h1 c⟩
  · rw [if_neg (fun z => c ((inR_iff (by omega)).mp z))]
    exact ⟨Or.inl rfl, h2 c⟩
theorem sp_Mg_isPlace {P : Int32 → aw_S → Prop} {x : Int32} (ha : S.2.2 0 6 = some a) (sa : sh0[a]? = some (0, 2)) (hn : n ≤ 7) (h0 : S.1 a 0 = nI n) (h1 : InR x n → P 1 S) (h2 : ¬ InR x n → P 0 S) : Sp l m_Mg_isPlace (d + 1 + 1) 0 0 [.ref 0, .int x] sh0 S (gI sh0 P) := by
  refine e_Mg_isPlace rfl ⟨a, ha, sa, ?_⟩
  rw [h0]
  refine sp_isWithin ?_
  by_cases c : InR x n
  · rw [if_pos ((inR_iff (by omega)).mpr c)]
    exact ⟨Or.inr rfl, h1 c⟩
  · rw [if_neg (fun z => c ((inR_iff (by omega)).mp z))]
    exact ⟨Or.inl rfl, h2 c⟩
theorem sp_Md_isGap {P : Int32 → aw_S → Prop} {x : Int32} (hS : MdS sh0 S.2.2) (hn : n ≤ 7) (h0 : S.1 115 0 = nI n) (h1 : InR x (gpN n) → P 1 S) (h2 : ¬ InR x (gpN n) → P 0 S) : Sp l m_Md_isGap (d + 1 + 1) 0 0 [.ref 114, .int x] sh0 S (gI sh0 P) := by
  have := gp_le n
  refine e_Md_isGap rfl ⟨fun q => h2 (inR_neg (by omega) q), fun q => sp_Md_gapsOf (s := 0) hS (by omega) hn h0 ⟨fun q2 => h2 ((inR_n (by omega) q).mp q2), fun q2 => ?_⟩⟩
  by_cases c : InR x (gpN n)
  · exact h1 c
  · exact absurd ((inR_n (by omega) q).mpr c) q2
theorem sp_Md_isDancer {P : Int32 → aw_S → Prop} {x : Int32} (hS : MdS sh0 S.2.2) (hn : n ≤ 7) (h0 : S.1 115 0 = nI n) (h1 : InR x n → P 1 S) (h2 : ¬ InR x n → P 0 S) : Sp l m_Md_isDancer (d + 1) 0 0 [.ref 114, .int x] sh0 S (gI sh0 P) := by
  refine e_Md_isDancer rfl ⟨fun q => h2 (inR_neg (N := n) (by omega) q), fun q => ⟨115, hS.2.1, 3864, hS.2.2, vp_in_nI (n := 0) (by omega) (by omega), ?_⟩⟩
  show ((S.1 115 0 ≤ x → P 0 S) ∧ (¬ S.1 115 0 ≤ x → P 1 S))
  rw [h0]
  refine ⟨fun q2 => h2 ((inR_n (by omega) q).mp q2), fun q2 => ?_⟩
  by_cases c : InR x n
  · exact h1 c
  · exact absurd ((inR_n (by omega) q).mpr c) q2
end NW
/-- what Inv says of the green that is now -/
def NowI (S : aw_S) (a b : Nat) (g : GM) : Prop := S.2.2 0 6 = some a ∧ S.2.2 0 7 = some b ∧ ((a = 11 ∧ b = 26) ∨ (a = 26 ∧ b = 11)) ∧ bdG g ∧ redN g.n g.f g.m ∧ GrG S.1 a g ∧ MdG S.1 0 g ∧ S.1 115 4 = S.1 a 3 + S.1 a 4 ∧ (∀ d, d < g.n → nmR (S.2.1 (a + 1) d) (S.2.1 116 d)) ∧ feR g.n S.1 (a + 8) 0
theorem Inv.now {S : aw_S} (h : Inv S) : ∃ a b g, NowI S a b g := by
  obtain ⟨a, b, h1, h2, h3, n, od, lg, m, f, col, std, k1, k2, k3, k4, k5, k6, k7⟩ := h.2.2.2.2.2.2.1
  refine ⟨a, b, (n, od, lg, m, f, col, std), h1, h2, h3, k1, k2, k3, k4, ?_, ?_, k7⟩
  · rw [Nat.zero_add] at k5
    exact k5
  · intro d hd
    have := k6 d hd
    rw [Nat.zero_add] at this
    exact this
theorem NowI.S {S : aw_S} {a b : Nat} {g : GM} (N : NowI S a b g) (h : RefsOk S.2.2) : GrS sh0 S.2.2 a := GrS.mk0 h (by have := N.2.2.1; omega)
/-- where the calls that change the green that is now may write -/
def YI (a k j : Nat) : Prop := (k = 0 ∧ j = 3) ∨ (k = 114 ∧ j ≠ 10 ∧ j ≠ 16 ∧ j ≠ 17 ∧ j ≠ 50 ∧ j ≠ 51) ∨ (a ≤ k ∧ k ≤ a + 7) ∨ k = a + 14 ∨ (k = 115 ∧ ((j < 184 ∧ j ≠ 5) ∨ 2208 ≤ j)) ∨ (86 ≤ k ∧ k ≤ 97) ∨ (99 ≤ k ∧ k ≤ 113) ∨ (121 ≤ k ∧ k ≤ 141)
theorem Inv.upG {S S' : aw_S} {a b : Nat} {g g' : GM} (h : Inv S) (N : NowI S a b g) (hI : ∀ k j, ¬ YI a k j → S'.1 k j = S.1 k j) (h2 : S'.2 = S.2) (hb : bdG g') (hn : g'.n = g.n) (hr : redN g'.n g'.f g'.m) (hG : GrG S'.1 a g') (hM : MdG S'.1 0 g') (hd : S'.1 115 4 = S'.1 a 3 + S'.1 a 4) (hs : S'.1 0 3 = S'.1 114 2) : Inv S' := by
  obtain ⟨n1, n2, n3, n4, n5, n6, n7, n8, n9, n10⟩ := N
  refine h.gen n1 n2 (fun k j q => hI k j (fun z => q ?_)) (fun k j _ => by rw [h2]) (by rw [h2]; exact h.rf) (a' := a) (b' := b) (by rw [h2]; exact n1) (by rw [h2]; exact n2) (Or.inl ⟨rfl, rfl⟩) hs (by rw [h2]; exact h.2.1) ⟨g'.n, g'.od, g'.lg, g'.m, g'.f, g'.col, g'.std, hb, hr, hG, hM, ?_, ?_, ?_⟩
  · unfold YI at z
    unfold ZI
    omega
  · rw [Nat.zero_add]
    exact hd
  · intro d hd
    rw [h2, Nat.zero_add]
    exact n9 d (by rw [← hn]; exact hd)
  · rw [hn]
    refine n10.fr ⟨hI _ _ (by unfold YI; omega), hI _ _ (by unfold YI; omega)⟩ (fun j _ => ⟨hI _ _ (by unfold YI; omega), hI _ _ (by unfold YI; omega), hI _ _ (by unfold YI; omega), hI _ _ (by unfold YI; omega), hI _ _ (by unfold YI; omega)⟩) (fun j _ _ => hI _ _ (by unfold YI; omega)) (hI _ _ (by unfold YI; omega))
/-! no pass of the plait undoes an earlier one: that stays so -/
theorem ub_none {n gap over : Nat} {f : Nat → Nat} : ∀ m, ub f (tchN n gap) gap over m = none → ∀ j, j < m → f j % 8 = gap → f j / 8 % 2 ≠ over → ∃ i, j < i ∧ i < m ∧ tchN n gap (f i % 8) = true := by
  intro m
  induction m with
  | zero => exact fun _ j h => absurd h (Nat.not_lt_zero j)
  | succ m ih =>
    intro h j hj h1 h2
    unfold ub at h
    by_cases c : tchN n gap (f m % 8) = true
    · rw [if_pos c] at h
      by_cases e : j = m
      · subst e
        rw [if_pos ⟨h1, h2⟩] at h
        cases h
      · exact ⟨m, by omega, by omega, c⟩
    · rw [if_neg c] at h
      by_cases e : j = m
      · subst e
        rw [h1] at c
        exact absurd (tch_self n gap) c
      · obtain ⟨i, i1, i2, i3⟩ := ih h j (by omega) h1 h2
        exact ⟨i, i1, by omega, i3⟩
theorem red_add {n gap over m v : Nat} {f : Nat → Nat} (h : redN n f m) (hu : ub f (tchN n gap) gap over m = none) (h1 : v % 8 = gap) (h2 : v / 8 % 2 = over) : redN n (insF f m v) (m + 1) := by
  intro j k hjk hk e1 e2
  have ej : insF f m v j = f j := by
    unfold insF
    rw [if_pos (by omega)]
  rw [ej] at e1 e2
  by_cases c : k = m
  · subst c
    rw [insF_k] at e1 e2 ⊢
    obtain ⟨i, i1, i2, i3⟩ := ub_none _ hu j hjk (e1.trans h1) (fun z => e2 (z.trans h2.symm))
    refine ⟨i, i1, i2, ?_⟩
    have ei : insF f k v i = f i := by
      unfold insF
      rw [if_pos i2]
    rw [ei, h1, tch_sym]
    exact i3
  · have ek : insF f m v k = f k := by
      unfold insF
      rw [if_pos (by omega)]
    rw [ek] at e1 e2 ⊢
    obtain ⟨i, i1, i2, i3⟩ := h j k hjk (by omega) e1 e2
    refine ⟨i, i1, i2, ?_⟩
    have ei : insF f m v i = f i := by
      unfold insF
      rw [if_pos (by omega)]
    rw [ei]
    exact i3
theorem red_rem {n m k : Nat} {f : Nat → Nat} (h : redN n f m) (hf : ∀ o, k < o → o < m → tchN n (f k % 8) (f o % 8) = false) : redN n (remF f k) (m - 1) := by
  intro j k' hjk hk e1 e2
  have old : ∀ x, remF f k x = f (if x < k then x else x + 1) := by
    intro x
    unfold remF
    split <;> rfl
  rw [old, old] at e1 e2
  obtain ⟨i, i1, i2, i3⟩ := h (if j < k then j else j + 1) (if k' < k then k' else k' + 1) (by split <;> split <;> omega) (by split <;> omega) e1 e2
  have ik : i ≠ k := by
    rintro rfl
    have hlt : i < (if k' < i then k' else k' + 1) := i2
    have := hf _ hlt (by split <;> omega)
    rw [this] at i3
    cases i3
  refine ⟨if i < k then i else i - 1, ?_, ?_, ?_⟩
  · revert i1
    split <;> split <;> omega
  · revert i2
    split <;> split <;> omega
  · rw [old, old]
    have : (if (if i < k then i else i - 1) < k then (if i < k then i else i - 1) else (if i < k then i else i - 1) + 1) = i := by
      by_cases c : i < k
      · simp only [if_pos c]
      · simp only [if_neg c]
        rw [if_neg (by omega)]
        omega
    rw [this]
    exact i3
theorem red_ub {g : GM} {gap over k : Nat} (h : redN g.n g.f g.m) (hu : ubG g gap over = some k) : redN (rmG g k).n (rmG g k).f (rmG g k).m := by
  obtain ⟨a, b, c⟩ := (ub_iff (tch_self g.n gap) k g.m).mp hu
  refine red_rem h (fun o h1 h2 => ?_)
  rw [(ub_lt hu).2.1]
  exact c o h1 h2
