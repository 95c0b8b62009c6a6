/-! fractions -/
/-- the steps of the two that divide: how many there may be -/
def gcS : Nat → Nat → Nat → Option Nat
  | 0, a, b => if b = 0 then some a else none
  | k + 1, a, b => if b = 0 then some a else gcS k b (a % b)
theorem gcS_eq : ∀ k a b r, gcS k a b = some r → r = Nat.gcd a b := by
  intro k
  induction k with
  | zero =>
    intro a b r h
    unfold gcS at h
    split at h
    · next e =>
      rw [e, Nat.gcd_zero_right]
      exact (Option.some.inj h).symm
    · cases h
  | succ k ih =>
    intro a b r h
    unfold gcS at h
    split at h
    · next e =>
      rw [e, Nat.gcd_zero_right]
      exact (Option.some.inj h).symm
    · rw [ih _ _ _ h, Nat.gcd_comm a b, Nat.gcd_rec b a, Nat.gcd_comm]
theorem gcS_ok : ∀ k a b, b < 2 ^ k → ∃ r, gcS (2 * k) a b = some r := by
  intro k
  induction k with
  | zero =>
    intro a b h
    have : b = 0 := by omega
    exact ⟨a, by unfold gcS; rw [if_pos this]⟩
  | succ k ih =>
    intro a b h
    rw [show 2 * (k + 1) = 2 * k + 1 + 1 by omega]
    unfold gcS
    by_cases e : b = 0
    · exact ⟨a, by rw [if_pos e]⟩
    · rw [if_neg e]
      unfold gcS
      by_cases e2 : a % b = 0
      · exact ⟨b, by rw [if_pos e2]⟩
      · rw [if_neg e2]
        apply ih
        have h1 : a % b < b := Nat.mod_lt _ (by omega)
        have h2 : b % (a % b) < a % b := Nat.mod_lt _ (by omega)
        have h3 : 2 * (b % (a % b)) < b := by
          have h4 := Nat.div_add_mod b (a % b)
          have h5 : 1 ≤ b / (a % b) := Nat.div_pos (by omega) (by omega)
          have h6 : a % b ≤ a % b * (b / (a % b)) := Nat.le_mul_of_pos_right _ h5
          omega
        rw [Nat.pow_succ] at h
        omega
theorem lg_eq0 (x : Int64) : lg_cmp x 0 = 0 ↔ x = 0 := by
  unfold lg_cmp
  split
  · next h => exact ⟨fun z => absurd z (by decide), fun z => absurd (by rw [z] at h; exact h) (fun q => Int64.lt_irrefl q)⟩
  · split
    · next h => exact ⟨fun _ => h, fun _ => rfl⟩
    · next h => exact ⟨fun z => absurd z (by decide), fun z => absurd z h⟩
theorem lN_0 {b : Nat} (hb : b < 2 ^ 63) : lN b = 0 ↔ b = 0 := pk_lEQ (b := 0) hb (by decide)
section GC
variable {l : Launch} {d : Nat} {sh : aw_SH} {S : aw_S}
theorem sp_commonDivisor {P : Int64 → aw_S → Prop} {a b : Nat} (ha : a < 2 ^ 63) (hb : b < 2 ^ 49) (h : P (lN (Nat.gcd a b)) S) : Sp l m_Ch_commonDivisor (d + 1) 0 0 [.long (lN a), .long (lN b)] sh S (gL sh P) := by
  refine e_Ch_commonDivisor ?_
  have key : ∀ k j a b r, j + k = 98 → a < 2 ^ 63 → b < 2 ^ 63 → gcS k a b = some r → P (lN r) S → AW l m_Ch_commonDivisor (d + 1) 0 0 (gL sh P) 0 0 9 [.null, .null, .null, .null, .long (lN a), .null, .long (lN b), .null, .int (nI j), .null, .null] [] sh S := by
    intro k
    induction k with
    | zero =>
      intro j a b r hj ha hb hr hp
      unfold gcS at hr
      split at hr
      · next e =>
        have er : a = r := Option.some.inj hr
        subst er
        exact s_Ch_commonDivisor_9 ⟨fun _ => hp, fun _ => ⟨fun _ => hp, fun q => absurd ((lg_eq0 _).mpr ((lN_0 hb).mpr e)) q⟩⟩
      · cases hr
    | succ k ih =>
      intro j a b r hj ha hb hr hp
      unfold gcS at hr
      by_cases e : b = 0
      · rw [if_pos e] at hr
        have er : a = r := Option.some.inj hr
        subst er
        exact s_Ch_commonDivisor_9 ⟨fun _ => hp, fun _ => ⟨fun _ => hp, fun q => absurd ((lg_eq0 _).mpr ((lN_0 hb).mpr e)) q⟩⟩
      · rw [if_neg e] at hr
        have hm : a % b < b := Nat.mod_lt _ (by omega)
        refine s_Ch_commonDivisor_9 ⟨fun q => absurd q (nI_ge (b := 100) (by omega) (by omega)), fun _ => ⟨fun q => absurd ((lN_0 hb).mp ((lg_eq0 _).mp q)) e, fun _ => ⟨fun q => e ((lN_0 hb).mp q), ?_⟩⟩⟩
        rw [pk_lRem ha (by omega) hb, nI_1]
        exact ih (j + 1) b (a % b) r (by omega) hb (by omega) hr hp
  obtain ⟨r, hr⟩ := gcS_ok 49 a b hb
  refine key 98 0 a b r (by omega) ha (by omega) hr ?_
  rw [gcS_eq _ _ _ _ hr]
  exact h
theorem sp_Ch_set {P : aw_S → Prop} {a b : Nat} (sa : sh[111]? = some (0, 10)) (ha : a < 2 ^ 63) (hb : b < 2 ^ 49) (h0 : 0 < b) (h : P (aw_uL (aw_uL S 111 0 (lN (a / Nat.gcd a b))) 111 1 (lN (b / Nat.gcd a b)))) : Sp l m_Ch_set (d + 1 + 1) 0 0 [.ref 111, .long (lN a), .long (lN b)] sh S (gV sh P) := by
  have g0 : 0 < Nat.gcd a b := Nat.gcd_pos_of_pos_right _ h0
  have g1 : Nat.gcd a b ≤ b := Nat.gcd_le_right _ h0
  have ne : ¬ lN (Nat.gcd a b) = 0 := fun z => by
    have := (lN_0 (by omega)).mp z
    omega
  refine e_Ch_set sa (sp_commonDivisor ha hb ⟨fun _ => ⟨ne, fun _ => ⟨ne, ?_⟩, fun q => absurd ((lg_eq0 _).mp q) ne⟩, fun q => absurd ((lg_eq0 _).mp q) ne⟩)
  rw [pk_lDiv ha g0 (by omega), pk_lDiv (by omega) g0 (by omega)]
  exact h
theorem sp_tellsBy {P : Int32 → aw_S → Prop} {a b : Nat} (ha : a < 2 ^ 63) (hb : b < 2 ^ 49) (h0 : 0 < b) (h : P 1 (aw_uI (aw_uL (aw_uL S 114 3 (lN (a / Nat.gcd a b))) 114 4 (lN (b / Nat.gcd a b))) 114 2 0)) : Sp l m_Md_tellsBy (d + 1 + 1) 0 0 [.ref 114, .long (lN a), .long (lN b)] sh0 S (gI sh0 P) := by
  have g0 : 0 < Nat.gcd a b := Nat.gcd_pos_of_pos_right _ h0
  have g1 : Nat.gcd a b ≤ b := Nat.gcd_le_right _ h0
  refine e_Md_tellsBy rfl ?_
  have key : ∀ k x y r, x < 2 ^ 63 → y < 2 ^ 63 → gcS k x y = some r → r = Nat.gcd a b → AW l m_Md_tellsBy (d + 1 + 1) 0 0 (gI sh0 P) 0 0 6 [.ref 114, .long (lN a), .null, .long (lN b), .null, .long (lN x), .null, .long (lN y), .null, .null, .null] [] sh0 S := by
    intro k
    have fin : ∀ x y : Nat, x = Nat.gcd a b → y = 0 → AW l m_Md_tellsBy (d + 1 + 1) 0 0 (gI sh0 P) 0 0 6 [.ref 114, .long (lN a), .null, .long (lN b), .null, .long (lN x), .null, .long (lN y), .null, .null, .null] [] sh0 S := by
      intro x y hx hy
      subst hx
      subst hy
      have ne : ¬ lN (Nat.gcd a b) = 0 := fun z => by
        have := (lN_0 (by omega)).mp z
        omega
      refine s_Md_tellsBy_6 rfl ⟨fun _ => ⟨ne, ne, ?_⟩, fun q => absurd ((lg_eq0 _).mpr rfl) q⟩
      rw [pk_lDiv ha g0 (by omega), pk_lDiv (by omega) g0 (by omega)]
      exact sp_is0 ⟨Or.inr rfl, h⟩
    induction k with
    | zero =>
      intro x y r hx hy hr er
      unfold gcS at hr
      split at hr
      · next e =>
        have : x = r := Option.some.inj hr
        exact fin x y (this.trans er) e
      · cases hr
    | succ k ih =>
      intro x y r hx hy hr er
      unfold gcS at hr
      by_cases e : y = 0
      · rw [if_pos e] at hr
        have : x = r := Option.some.inj hr
        exact fin x y (this.trans er) e
      · rw [if_neg e] at hr
        have hm : x % y < y := Nat.mod_lt _ (by omega)
        refine s_Md_tellsBy_6 rfl ⟨fun q => absurd ((lN_0 hy).mp ((lg_eq0 _).mp q)) e, fun _ => ⟨fun q => e ((lN_0 hy).mp q), ?_⟩⟩
        rw [pk_lRem hx (by omega) hy]
        exact ih y (x % y) r hy (by omega) hr er
  obtain ⟨r, hr⟩ := gcS_ok 49 a b hb
  exact key 98 a b r ha (by omega) hr (gcS_eq _ _ _ _ hr)
end GC
/-- the fraction is told anew; what else is written is free -/
theorem Inv.frc {S T : aw_S} {a b : Nat} {g : GM} (h : Inv S) (N : NowI S a b g) (hI : ∀ k j, ¬ ((k = 0 ∧ j = 3) ∨ (k = 114 ∧ j ≠ 10 ∧ j ≠ 16 ∧ j ≠ 17 ∧ j ≠ 50 ∧ j ≠ 51) ∨ (b ≤ k ∧ k < b + 15) ∨ k = a + 14 ∨ (86 ≤ k ∧ k ≤ 97) ∨ (99 ≤ k ∧ k ≤ 113) ∨ (k = 115 ∧ 2208 ≤ j) ∨ (121 ≤ k ∧ k ≤ 141)) → T.1 k j = S.1 k j) (hL : ∀ k j, ¬ (k = 111 ∨ k = 112 ∨ k = 113 ∨ k = 114 ∨ k = b + 1 ∨ 120 ≤ k) → T.2.1 k j = S.2.1 k j) (hR : T.2.2 = S.2.2) (hs : T.1 0 3 = T.1 114 2) (hf : T.2.1 111 0 = T.2.1 114 3 ∧ T.2.1 111 1 = T.2.1 114 4) : Inv T := by
  obtain ⟨n1, n2, n3, n4, n5, n6, n7, n8, n9, n10⟩ := id N
  have hab : (a = 11 ∧ b = 26) ∨ (a = 26 ∧ b = 11) := n3
  have c : ∀ k, (∀ j, ¬ ((k = 0 ∧ j = 3) ∨ (k = 114 ∧ j ≠ 10 ∧ j ≠ 16 ∧ j ≠ 17 ∧ j ≠ 50 ∧ j ≠ 51) ∨ (b ≤ k ∧ k < b + 15) ∨ k = a + 14 ∨ (86 ≤ k ∧ k ≤ 97) ∨ (99 ≤ k ∧ k ≤ 113) ∨ (k = 115 ∧ 2208 ≤ j) ∨ (121 ≤ k ∧ k ≤ 141))) → T.1 k = S.1 k := fun k q => funext fun j => hI k j (q j)
  obtain ⟨x, y, h1, h2, h3, hg⟩ := h.2.2.2.2.2.2.1
  have ex : a = x := Option.some.inj (n1.symm.trans h1)
  subst ex
  refine h.gen n1 n2 (fun k j q => hI k j (fun z => q ?_)) (fun k j q => hL k j (fun z => q ?_)) (by rw [hR]; exact h.rf) (a' := a) (b' := b) (by rw [hR]; exact n1) (by rw [hR]; exact n2) (Or.inl ⟨rfl, rfl⟩) hs hf (hg.fr (fun k q1 q2 => c k (fun j => by omega)) (fun j hj => hI 115 _ (by omega)) (funext fun j => hL _ j (by omega)) (fun e he => hL 116 _ (by omega)))
  · unfold ZI
    omega
  · unfold ZL
    omega
theorem ok_share (l : Launch) : Ok_share l 0 114 sh0 Inv := by
  intro S hI x
  obtain ⟨a, b, g, N⟩ := hI.now
  have hS := N.S hI.rf
  have hM := MdS.mk0 hI.rf
  have hab := N.ab
  obtain ⟨n1, n2, n3, n4, n5, n6, n7, n8, n9, n10⟩ := id N
  have hn : g.n ≤ 7 := n4.1
  have hm : g.m ≤ 40 := n4.2.2.2.2.1
  refine e_Mg_share rfl (sp_Mg_isDancer (d := 197) n1 hS.sa hn n6.1 (fun hx => ⟨fun _ => ⟨a, n1, hS.sa, a + 6, hS.r10, hS.s6, ?_⟩, fun q => absurd q (by decide)⟩) (fun hx => ⟨fun q => absurd rfl q, fun _ => e_Mg_refuse rfl ⟨Or.inl rfl, e_Md_share rfl (sp_Md_isDancer (d := 198) hM hn (N.m3 _).1 (fun z => absurd z hx) (fun _ => ⟨fun q => absurd rfl q, fun _ => sp_is1 (by decide) ⟨Or.inl rfl, rfl, hI.st rfl⟩⟩))⟩⟩))
  obtain ⟨w, hw, rfl⟩ := id hx
  have e3 : ∀ (y : Int32), (aw_uI S 0 3 y).1 115 (3 : Int32).toNatClampNeg = nI g.m := fun y => (N.m3 y).2.2.2.1
  rw [n6.2.2.2.1]
  refine ⟨fun q => ⟨111, hI.rf.at (by decide), sp_Pl_timesOver (d := 197) (n6.pl hS n4) (by omega) ⟨a, n1, hS.sa, a + 6, hS.r10, hS.s6, rfl, ?_⟩⟩, fun q => e_Mg_refuse rfl ⟨Or.inl rfl, e_Md_share rfl (sp_Md_isDancer (d := 198) hM hn (N.m3 _).1 (fun _ => ⟨fun _ => ⟨115, hM.2.1, 3864, rfl, vp_in_nI (n := 3) (by omega) (by omega), ?_⟩, fun q => absurd q (by decide)⟩) (fun z => absurd hx z))⟩⟩
  · have m0 : 0 < g.m := Nat.pos_of_ne_zero (fun z => q (by rw [z]; rfl))
    have tle := tmW_le g.f 2 w g.m
    rw [n6.2.2.2.1, nI_l (by omega), nI_l (by omega)]
    refine sp_Ch_set (d := 197) rfl (by omega) (by omega) m0 (e_Mg_grant rfl ⟨Or.inr rfl, ?_⟩)
    have M1 : MdG (aw_uI (aw_uL (aw_uL S 111 0 (lN (tmW g.f 2 w g.m / Nat.gcd (tmW g.f 2 w g.m) g.m))) 111 1 (lN (g.m / Nat.gcd (tmW g.f 2 w g.m) g.m))) 0 3 0).1 0 g := N.m3 0
    refine e_Md_share rfl (sp_Md_isDancer (d := 198) hM hn M1.1 (fun _ => ⟨fun _ => ⟨115, hM.2.1, 3864, rfl, vp_in_nI (n := 3) (by omega) (by omega), ?_⟩, fun q => absurd q (by decide)⟩) (fun z => absurd hx z))
    have f3 : (aw_uI (aw_uL (aw_uL S 111 0 (lN (tmW g.f 2 w g.m / Nat.gcd (tmW g.f 2 w g.m) g.m))) 111 1 (lN (g.m / Nat.gcd (tmW g.f 2 w g.m) g.m))) 0 3 0).1 115 (3 : Int32).toNatClampNeg = nI g.m := e3 0
    rw [f3]
    refine ⟨fun _ => sp_Md_wentSo (w := 2) (d := 196) hM n4 M1 (by omega) (by omega) ⟨115, hM.2.1, 3864, rfl, vp_in_nI (n := 3) (by omega) (by omega), ?_⟩, fun z => absurd z q⟩
    rw [f3, nI_l (by omega), nI_l (by omega)]
    refine sp_tellsBy (d := 197) (by omega) (by omega) m0 ⟨Or.inr rfl, rfl, hI.frc N (fun k j q => ?_) (fun k j q => ?_) rfl ?_ ?_⟩
    · rw [uI_at, uL_I, uL_I]
      by_cases c1 : k = 114
      · rw [if_pos c1, if_neg (fun z => q (by omega)), uI_ne _ _ _ (by omega), uL_I, uL_I, c1]
      · rw [if_neg c1, uI_at, uL_I, uL_I]
        by_cases c2 : k = 0
        · rw [if_pos c2, if_neg (fun z => q (by omega)), c2]
        · rw [if_neg c2]
    · rw [uI_L, uL_ne _ _ _ (by omega), uL_ne _ _ _ (by omega), uI_L, uL_ne _ _ _ (by omega), uL_ne _ _ _ (by omega)]
    · rw [uI_ne _ _ _ (by omega), uL_I, uL_I, uI_at, if_pos rfl, if_pos rfl, uI_at, if_pos rfl, if_pos rfl]
    · simp only [uI_L, uL_at]
      simp
  · rw [e3]
    exact ⟨fun z => absurd q z, fun _ => sp_is1 (by decide) ⟨Or.inl rfl, rfl, hI.st rfl⟩⟩
