/-! the class's GREEN: what is asked of it -/
def tmN (n gap : Nat) : Nat := 1 <<< gap ||| 1 <<< ((gap + n - 1) % n) ||| 1 <<< nx n gap
set_option maxRecDepth 100000 in
theorem tm_w : ∀ n, n < 8 → ∀ gap, gap < n → 2 ≤ n → (¬ gap = 0 → (((1 : Int32) <<< (nI gap &&& 31)) ||| ((1 : Int32) <<< ((nI gap - 1) &&& 31))) ||| ((1 : Int32) <<< (nI (nx n gap) &&& 31)) = nI (tmN n gap)) ∧ (gap = 0 → (((1 : Int32) <<< (nI gap &&& 31)) ||| ((1 : Int32) <<< ((nI n - 1) &&& 31))) ||| ((1 : Int32) <<< (nI (nx n gap) &&& 31)) = nI (tmN n gap)) := by decide +kernel
set_option maxRecDepth 100000 in
theorem tm_b : ∀ n, n < 8 → ∀ gap, gap < gpN n → tmN n gap < 128 ∧ ∀ g, g < gpN n → (tmN n gap / 2 ^ g % 2 = 0 ↔ tchN n gap g = false) := by decide +kernel
theorem s31 : ∀ g, g < 32 → ((nI g &&& 31).toBitVec.smod 32).toNat = g := by decide +kernel
theorem n_bit {w g : Nat} (hw : w < 2 ^ 31) (hg : g < 32) : (nI w >>> (nI g &&& 31)) &&& 1 = nI (w / 2 ^ g % 2) := by
  rw [n_shr hw _ g (s31 g hg), n_and1 (Nat.lt_of_le_of_lt (Nat.div_le_self _ _) hw)]
theorem n_bit0 {w g : Nat} (hw : w < 2 ^ 31) (hg : g < 32) : (nI w >>> (nI g &&& 31)) &&& 1 = 0 ↔ w / 2 ^ g % 2 = 0 := by
  rw [n_bit hw hg]
  exact nI_inj (b := 0) (by omega) (by omega)
theorem us_le (f : Nat → Nat) (d m : Nat) : usN f d m ≤ m := by
  induction m with
  | zero => exact Nat.le_refl _
  | succ m ih =>
    unfold usN
    split <;> omega
section GR
variable {l : Launch} {d : Nat} {sh : aw_SH} {S : aw_S} {a : Nat} {g : GM}
theorem sp_Gr_gaps {P : Int32 → aw_S → Prop} {n : Nat} (sa : sh[a]? = some (0, 2)) (hn : n ≤ 7) (h0 : S.1 a 0 = nI n) (h : P (nI (gpN n)) S) : Sp l m_Gr_gaps (d + 1) 0 0 [.ref a] sh S (gI sh P) := by
  refine e_Gr_gaps sa ?_
  rw [h0]
  unfold gpN at h
  refine ⟨fun q => ?_, fun q => ?_⟩
  · have := (nI_leI (a := 2) (by omega) (by omega)).mp q
    rw [if_neg (by omega)] at h
    refine ⟨fun q2 => ?_, fun q2 => ?_⟩
    · rw [if_neg (fun z => q2 (by rw [z]; rfl))] at h
      exact h
    · rw [if_pos ((nI_inj (b := 2) (by omega) (by omega)).mp q2)] at h
      exact h
  · have : n < 2 := Nat.not_le.mp (fun z => q (nI_le (a := 2) z (by omega)))
    rw [if_pos (by omega)] at h
    exact h
theorem sp_Gr_nextPlace {P : Int32 → aw_S → Prop} {n p : Nat} (sa : sh[a]? = some (0, 2)) (hn : n ≤ 7) (hp : p < n) (h0 : S.1 a 0 = nI n) (h : P (nI (nx n p)) S) : Sp l m_Gr_nextPlace (d + 1) 0 0 [.ref a, .int (nI p)] sh S (gI sh P) := by
  refine e_Gr_nextPlace sa ?_
  rw [h0, nI_1]
  unfold nx at h
  refine ⟨fun q => ?_, fun q => ?_⟩
  · rw [Nat.mod_eq_of_lt ((nI_ltI (by omega) (by omega)).mp q)] at h
    exact h
  · have : p + 1 = n := by
      have : ¬ p + 1 < n := fun z => q (nI_lt z (by omega))
      omega
    rw [this, Nat.mod_self] at h
    exact h
theorem sp_Gr_touching {P : Int32 → aw_S → Prop} {n gap : Nat} (sa : sh[a]? = some (0, 2)) (hn : n ≤ 7) (hg : gap < gpN n) (h0 : S.1 a 0 = nI n) (h : P (nI (tmN n gap)) S) : Sp l m_Gr_touching (d + 1 + 1) 0 0 [.ref a, .int (nI gap)] sh S (gI sh P) := by
  have h2 := gp_2 hg
  have h3 := gp_le n
  obtain ⟨e1, e2⟩ := tm_w n (by omega) gap (by omega) h2
  refine e_Gr_touching sa ⟨fun q => sp_Gr_nextPlace sa hn (by omega) h0 ?_, fun q => sp_Gr_nextPlace sa hn (by omega) h0 ?_⟩
  · rw [e1 (fun z => q (by rw [z]; rfl))]
    exact h
  · rw [h0, e2 ((nI_inj (b := 0) (by omega) (by omega)).mp q)]
    exact h
theorem sp_max0 {P : Int32 → aw_S → Prop} {x y : Nat} (hx : x < 2 ^ 30) (hy : y < 2 ^ 30) (h : P (nI (x - y)) S) : Sp l m_Ma_max (d + 1) 0 0 [.int 0, .int (nI x - nI y)] sh S (gI sh P) := by
  refine e_Ma_max ?_
  by_cases c : y < x
  · rw [pk_sub (by omega)]
    exact ⟨fun _ => h, fun q => absurd (nI_lt (a := 0) (by omega) (by omega)) q⟩
  · rw [Nat.sub_eq_zero_of_le (by omega)] at h
    refine ⟨fun q => absurd q ?_, fun _ => h⟩
    by_cases e : x = y
    · subst e
      rw [Int32.sub_self]
      decide
    · exact fun q2 => absurd (pk_sneg hy (show x < y by omega)) (fun z => Int32.lt_irrefl (Int32.lt_trans z q2))
theorem sp_Gr_left {P : Int32 → aw_S → Prop} {w : Nat} (hS : GrS sh S.2.2 a) (hb : bdG g) (H : GrG S.1 a g) (hw : w < g.n) (h : P (nI (lfN g w)) S) : Sp l m_Gr_left (d + 1 + 1) 0 0 [.ref a, .int (nI w)] sh S (gI sh P) := by
  have hn := hb.1
  refine e_Gr_left hS.sa ⟨a + 4, hS.r8, 7, hS.s4, vp_in_nI (by omega) (by omega), ?_⟩
  rw [nI_clamp (by omega), H.2.2.1, H.2.2.2.2.2.2.2 w hw]
  have := us_le g.f w g.m
  exact sp_max0 (by have := hb.2.2.2.1; omega) (by have := hb.2.2.2.2.1; omega) h
theorem sp_Gr_canAdd {P : Int32 → aw_S → Prop} {gap : Nat} (hS : GrS sh S.2.2 a) (hb : bdG g) (H : GrG S.1 a g) (hg : gap < gpN g.n) (h1 : canN g gap → P 1 S) (h0 : ¬ canN g gap → P 0 S) : Sp l m_Gr_canAdd (d + 1 + 1 + 1) 0 0 [.ref a, .int (nI gap)] sh S (gI sh P) := by
  have h2 := gp_2 hg
  have h3 := gp_le g.n
  have hn : g.n ≤ 7 := hb.1
  have hm : g.m ≤ 40 := hb.2.2.2.2.1
  have hl : g.lg ≤ 40 := hb.2.2.2.1
  have hst := hb.2.2.2.2.2.2.2.1
  have H5 := H.2.2.2.2.2.2.1
  have hx := nx_lt (n := g.n) (p := gap) (by omega)
  have s1 := hst gap (by omega)
  have s2 := hst _ hx
  have u1 := us_le g.f (g.std gap) g.m
  have u2 := us_le g.f (g.std (nx g.n gap)) g.m
  refine e_Gr_canAdd hS.sa (sp_Gr_nextPlace hS.sa hn (by omega) H.1 ⟨a + 6, hS.r10, hS.s6, ?_⟩)
  rw [H.2.2.2.1]
  refine ⟨fun q => h0 (fun z => ?_), fun q => ⟨a + 4, hS.r8, a + 5, hS.r9, 7, hS.s5, vp_in_nI (by omega) (by omega), 7, hS.s4, ?_⟩⟩
  · have := (nI_leI (a := 40) (by omega) (by omega)).mp q
    have := z.1
    omega
  have hlt : g.m < 40 := Nat.not_le.mp (fun z => q (nI_le (a := 40) z (by omega)))
  rw [nI_clamp (show gap < 2 ^ 31 by omega), nI_clamp (show nx g.n gap < 2 ^ 31 by omega), (H5 gap (by omega)).1, (H5 _ hx).1, nI_clamp (show g.std gap < 2 ^ 31 by omega), nI_clamp (show g.std (nx g.n gap) < 2 ^ 31 by omega), H.2.2.1, H.2.2.2.2.2.2.2 _ s1, H.2.2.2.2.2.2.2 _ s2]
  refine ⟨vp_in_nI (by omega) (by omega), fun q1 => h0 (fun z => ?_), fun q1 => ⟨vp_in_nI (by omega) (by omega), vp_in_nI (by omega) (by omega), fun q2 => h0 (fun z => ?_), fun q2 => h1 ⟨hlt, ?_, ?_⟩⟩⟩
  · have k := (nI_leI (a := g.lg) (b := usN g.f (g.std gap) g.m) (by omega) (by omega)).mp q1
    have z1 : 0 < g.lg - usN g.f (g.std gap) g.m := z.2.1
    omega
  · have k := (nI_leI (a := g.lg) (b := usN g.f (g.std (nx g.n gap)) g.m) (by omega) (by omega)).mp q2
    have z1 : 0 < g.lg - usN g.f (g.std (nx g.n gap)) g.m := z.2.2
    omega
  · have k : ¬ g.lg ≤ usN g.f (g.std gap) g.m := fun z => q1 (nI_le z (by omega))
    show 0 < g.lg - usN g.f (g.std gap) g.m
    omega
  · have k : ¬ g.lg ≤ usN g.f (g.std (nx g.n gap)) g.m := fun z => q2 (nI_le z (by omega))
    show 0 < g.lg - usN g.f (g.std (nx g.n gap)) g.m
    omega
theorem sp_Gr_changePlaces {P : aw_S → Prop} {n gap : Nat} {std : Nat → Nat} (hS : GrS sh S.2.2 a) (hn : n ≤ 7) (hg : gap < gpN n) (h0 : S.1 a 0 = nI n) (hst : ∀ p, p < n → std p < n) (hij : ∀ p q, p < n → q < n → std p = std q → p = q) (H5 : ∀ p, p < n → S.1 (a + 5) p = nI (std p) ∧ S.1 (a + 3) (std p) = nI p) (h : ∀ S', FrI (fun k _ => k = a + 3 ∨ k = a + 5) S S' → (∀ p, p < n → S'.1 (a + 5) p = nI (swS n std gap p) ∧ S'.1 (a + 3) (swS n std gap p) = nI p) → P S') : Sp l m_Gr_changePlaces (d + 1 + 1) 0 0 [.ref a, .int (nI gap)] sh S (gV sh P) := by
  have h2 := gp_2 hg
  have h3 := gp_le n
  have hx := nx_lt (n := n) (p := gap) (by omega)
  have hne := nx_ne h2 (show gap < n by omega)
  have s1 := hst gap (by omega)
  have s2 := hst _ hx
  have sne : std (nx n gap) ≠ std gap := fun z => hne (hij _ _ hx (by omega) z)
  refine e_Gr_changePlaces hS.sa (sp_Gr_nextPlace hS.sa hn (by omega) h0 ⟨a + 5, hS.r9, 7, hS.s5, vp_in_nI (by omega) (by omega), vp_in_nI (by omega) (by omega), vp_in_nI (by omega) (by omega), vp_in_nI (by omega) (by omega), a + 3, hS.r7, 7, hS.s3, ?_⟩)
  rw [nI_clamp (show gap < 2 ^ 31 by omega), nI_clamp (show nx n gap < 2 ^ 31 by omega), (H5 gap (by omega)).1, (H5 _ hx).1, nI_clamp (show std gap < 2 ^ 31 by omega)]
  have e5 : (aw_uI (aw_uI (aw_uI S (a + 5) gap (nI (std (nx n gap)))) (a + 5) (nx n gap) (nI (std gap))) (a + 3) (std gap) (nI (nx n gap))).1 (a + 5) gap = nI (std (nx n gap)) := by
    rw [uI_ne _ _ _ (by omega), uI_at, if_pos rfl, if_neg (fun z => hne z.symm), uI_at, if_pos rfl, if_pos rfl]
  rw [e5, nI_clamp (show std (nx n gap) < 2 ^ 31 by omega)]
  refine ⟨vp_in_nI (by omega) (by omega), vp_in_nI (by omega) (by omega), vp_in_nI (by omega) (by omega), h _ ?_ ?_⟩
  · exact ((((FrI.refl _ S).uI _ (Or.inr rfl)).uI _ (Or.inr rfl)).uI _ (Or.inl rfl)).uI _ (Or.inl rfl)
  · intro p hp
    simp only [uI_at]
    simp only [show ¬ a + 5 = a + 3 by omega, show ¬ a + 3 = a + 5 by omega, if_true, if_false]
    by_cases c1 : p = gap
    · have k1 : swS n std gap p = std (nx n gap) := by
        unfold swS
        rw [if_pos c1]
      rw [k1, if_neg (fun z => hne (z.symm.trans c1)), if_pos c1, if_pos rfl, c1]
      exact ⟨rfl, rfl⟩
    · by_cases c2 : p = nx n gap
      · have k1 : swS n std gap p = std gap := by
          unfold swS
          rw [if_neg c1, if_pos c2]
        rw [k1, if_pos c2, if_neg (fun z => sne z.symm), if_pos rfl, c2]
        exact ⟨rfl, rfl⟩
      · have k1 : swS n std gap p = std p := by
          unfold swS
          rw [if_neg c1, if_neg c2]
        rw [k1, if_neg c2, if_neg c1, if_neg (fun z => c2 (hij _ _ hp hx z)), if_neg (fun z => c1 (hij _ _ hp (by omega) z))]
        exact H5 p hp
end GR
