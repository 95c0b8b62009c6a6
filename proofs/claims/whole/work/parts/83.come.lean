/-! come: the call -/
theorem gp_mono {n n' : Nat} (h : n ≤ n') : gpN n ≤ gpN n' := by
  unfold gpN
  split <;> split <;> (try split) <;> (try split) <;> omega
theorem stR.mono {n n' : Nat} (h : n ≤ n') {cd : Nat → Nat} {N e : Nat} {kd ts fs sd bh x1 x2 x4 x5 : Int32} (r : stR n cd N e kd ts fs sd bh x1 x2 x4 x5) : stR n' cd N e kd ts fs sd bh x1 x2 x4 x5 := by
  have hg := gp_mono h
  rcases r with ⟨a1, a2, ⟨g, o, a3, a4⟩, a5⟩ | r | r | ⟨a1, a2, ⟨d, c, a3, a4⟩, a5⟩ | r | r | ⟨p, a1, a2, a3, a4, a5, r⟩
  · exact Or.inl ⟨a1, a2, ⟨g, o, by omega, a4⟩, a5⟩
  · exact Or.inr (Or.inl r)
  · exact Or.inr (Or.inr (Or.inl r))
  · exact Or.inr (Or.inr (Or.inr (Or.inl ⟨a1, a2, ⟨d, c, by omega, a4⟩, a5⟩)))
  · exact Or.inr (Or.inr (Or.inr (Or.inr (Or.inl r))))
  · exact Or.inr (Or.inr (Or.inr (Or.inr (Or.inr (Or.inl r)))))
  · refine Or.inr (Or.inr (Or.inr (Or.inr (Or.inr (Or.inr ⟨p, a1, a2, a3, a4, a5, ?_⟩)))))
    rcases r with r | ⟨k1, r⟩
    · exact Or.inl r
    · refine Or.inr ⟨k1, ?_⟩
      rcases r with ⟨c1, c2, d, c3, c4⟩ | ⟨c1, c2, d, q, c3, c4, c5⟩ | ⟨c1, c2, g, c, c3, c4⟩ | r
      · exact Or.inl ⟨c1, c2, d, by omega, c4⟩
      · exact Or.inr (Or.inl ⟨c1, c2, d, q, by omega, by omega, c5⟩)
      · exact Or.inr (Or.inr (Or.inl ⟨c1, c2, g, c, by omega, c4⟩))
      · exact Or.inr (Or.inr (Or.inr r))
theorem feR.mono {n n' : Nat} (h : n ≤ n') {I : Nat → Nat → Int32} {c s : Nat} (r : feR n I c s) : feR n' I c s := by
  rcases r with r | ⟨a0, N, cd, pr, a1, a2, a3, a4, a5, a6⟩
  · exact Or.inl r
  · refine Or.inr ⟨a0, N, cd, pr, a1, a2, a3, a4, fun e he => ?_, a6⟩
    obtain ⟨k1, k2, k3, k4⟩ := a5 e he
    exact ⟨k1, k2, k3, fun q => ⟨(k4 q).1.mono h, (k4 q).2⟩⟩
theorem ok_come (l : Launch) : Ok_come l 0 114 sh0 Inv := by
  intro S hI x
  obtain ⟨a, b, g, N⟩ := hI.now
  have hS := N.S hI.rf
  have hM := MdS.mk0 hI.rf
  have hab := N.ab
  obtain ⟨n1, n2, n3, n4, n5, n6, n7, n8, n9, n10⟩ := id N
  have hn : g.n ≤ 7 := n4.1
  have hm : g.m ≤ 40 := n4.2.2.2.2.1
  have e0 : ∀ y, (aw_uI S 0 3 y).1 115 (0 : Int32).toNatClampNeg = nI g.n := fun y => (N.m3 y).1
  have e3 : ∀ y, (aw_uI S 0 3 y).1 115 (3 : Int32).toNatClampNeg = nI g.m := fun y => (N.m3 y).2.2.2.1
  refine e_Mg_come rfl (sp_isWithin ?_)
  by_cases c : 0 ≤ x ∧ x ≤ 5
  · rw [if_pos c]
    obtain ⟨v, hv, rfl⟩ := le_ge (n := 5) (by decide) c
    have from5 : ∀ {T : aw_S} {X : Int32 → aw_S → Prop}, X 1 T → Sp l m_Md_isFrom 199 0 0 [.long (nI v).toInt64, .long 0, .long 5] sh0 T (gI sh0 X) := fun h => sp_isFrom (d := 198) (y := 0) (z := 5) (by decide) (by decide) (fun _ => h) (fun z => absurd c z)
    refine ⟨fun _ => ⟨a, n1, hS.sa, ?_⟩, fun q => absurd q (by decide)⟩
    rw [n6.1]
    refine ⟨fun q => ⟨a + 6, hS.r10, hS.s6, ?_⟩, fun q => e_Mg_fail rfl (e_Md_come rfl (from5 ⟨fun _ => ⟨115, hM.2.1, 3864, rfl, vp_in_nI (n := 0) (by omega) (by omega), ?_⟩, fun q => absurd q (by decide)⟩))⟩
    · have hlt : g.n < 7 := (nI_ltI (b := 7) (by omega) (by omega)).mp q
      rw [n6.2.2.2.1]
      refine ⟨fun q2 => e_Mg_fail rfl (e_Md_come rfl (from5 ⟨fun _ => ⟨115, hM.2.1, 3864, rfl, vp_in_nI (n := 0) (by omega) (by omega), ?_⟩, fun q => absurd q (by decide)⟩)), fun q2 => sp_Gr_atHome (d := 198) hS n4 n6 ⟨a, n1, hS.sa, ?_⟩⟩
      · rw [e0, e3]
        exact ⟨fun _ => ⟨vp_in_nI (n := 3) (by omega) (by omega), fun _ => e_Md_refuse rfl ⟨rfl, hI.st rfl⟩, fun z => absurd q2 z⟩, fun z => absurd z (fun z => by have := (nI_inj (b := 7) (by omega) (by omega)).mp z; omega)⟩
      · have hm0 : g.m = 0 := by
          have : ¬ 0 < g.m := fun z => q2 (nI_lt (a := 0) z (by omega))
          omega
        rw [n6.1, full_w g.n (by omega)]
        have p1 := pc_all g.n (by omega) _ (hm_lt g.std g.n)
        have p2 := hm_128 g.std hn
        have p3 := pc_le (hmN g.std g.n)
        have pw : 2 ^ g.n ≤ 128 := Nat.pow_le_pow_right (n := 2) (by decide) hn
        refine ⟨fun q3 => sp_Gr_join (d := 198) hS hlt n6.1 ⟨a, n1, hS.sa, ?_⟩, fun q3 => e_Mg_fail rfl (e_Md_come rfl (from5 ⟨fun _ => ⟨115, hM.2.1, 3864, rfl, vp_in_nI (n := 0) (by omega) (by omega), ?_⟩, fun q => absurd q (by decide)⟩))⟩
        · have full : hmN g.std g.n = 2 ^ g.n - 1 := (nI_inj (by omega) (by omega)).mp q3
          have G := GrG.jn (c := v) (name := 0) n4 n6
          have ga : (jnS S a g.n 0 (nI v)).1 a 0 = nI (g.n + 1) := G.1
          rw [ga, nI_pred]
          have o : ∀ k, ¬ (a ≤ k ∧ k ≤ a + 5) → (jnS S a g.n 0 (nI v)).1 k = S.1 k := fun k hk => by
            unfold jnS
            rw [uI_ne _ _ _ (by omega), uI_ne _ _ _ (by omega), uI_ne _ _ _ (by omega), uI_ne _ _ _ (by omega), uI_ne _ _ _ (by omega), uL_I]
          have oa : ∀ i, i ≠ 0 → (jnS S a g.n 0 (nI v)).1 a i = S.1 a i := fun i hi => by
            unfold jnS
            rw [uI_at, if_pos rfl, if_neg hi, uI_ne _ _ _ (by omega), uI_ne _ _ _ (by omega), uI_ne _ _ _ (by omega), uI_ne _ _ _ (by omega), uL_I]
          have oL : (jnS S a g.n 0 (nI v)).2.1 = (aw_uL S (a + 1) g.n 0).2.1 := rfl
          have oR : (jnS S a g.n 0 (nI v)).2.2 = S.2.2 := rfl
          have M1 : MdG (aw_uI (jnS S a g.n 0 (nI v)) 0 3 0).1 0 g := n7.fr n4.1 n4.2.2.2.2.1 (fun j _ => by rw [uI_ne _ _ _ (by omega), o _ (by omega)])
          refine e_Mg_give rfl (e_Md_come rfl (from5 ⟨fun _ => ⟨115, hM.2.1, 3864, rfl, vp_in_nI (n := 0) (by omega) (by omega), ?_⟩, fun q => absurd q (by decide)⟩))
          have f0 : (aw_uI (jnS S a g.n 0 (nI v)) 0 3 0).1 115 (0 : Int32).toNatClampNeg = nI g.n := M1.1
          have f3 : (aw_uI (jnS S a g.n 0 (nI v)) 0 3 0).1 115 (3 : Int32).toNatClampNeg = nI g.m := M1.2.2.2.1
          rw [f0, f3]
          refine ⟨fun _ => ⟨vp_in_nI (n := 3) (by omega) (by omega), fun z => absurd z q2, fun _ => sp_Md_atHome (d := 198) hM n4 M1 (sp_Md_bits p2 ⟨fun _ => ⟨115, hM.2.1, 3864, rfl, ?_⟩, fun z => absurd (by rw [p1.mpr full]) z⟩)⟩, fun z => absurd z (fun z => by have := (nI_inj (b := 7) (by omega) (by omega)).mp z; omega)⟩
          rw [nB10, nB17, nI_clamp (show 10 + g.n < 2 ^ 31 by omega), nI_clamp (show 17 + g.n < 2 ^ 31 by omega), nI_clamp (show g.n < 2 ^ 31 by omega)]
          refine ⟨vp_in_nI (by omega) (by omega), vp_in_nI (by omega) (by omega), 116, hI.rf.at (by decide), 42, rfl, vp_in_nI (by omega) (by omega), vp_in_nI (n := 0) (by omega) (by omega), vp_in_nI (n := 0) (by omega) (by omega), e_Md_gives rfl ⟨rfl, ?_⟩⟩
          have f0' : ((aw_uL (aw_uI (aw_uI (aw_uI (jnS S a g.n 0 (nI v)) 0 3 0) 115 (10 + g.n) (nI v)) 115 (17 + g.n) (nI g.n)) 116 g.n 0).1 115 (0 : Int32).toNatClampNeg) + 1 = nI (g.n + 1) := by
            rw [uL_I, uI_at, if_pos rfl, if_neg (show ¬ (0 : Int32).toNatClampNeg = 17 + g.n from fun z => by have z : 0 = 17 + g.n := z; omega), uI_at, if_pos rfl, if_neg (show ¬ (0 : Int32).toNatClampNeg = 10 + g.n from fun z => by have z : 0 = 10 + g.n := z; omega), f0, nI_1]
          rw [f0']
          show Inv (aw_uI (aw_uI (aw_uL (aw_uI (aw_uI (aw_uI (jnS S a g.n 0 (nI v)) 0 3 0) 115 (10 + g.n) (nI v)) 115 (17 + g.n) (nI g.n)) 116 g.n 0) 115 0 (nI (g.n + 1))) 114 2 0)
          have E115 : ∀ i, (aw_uI (aw_uI (aw_uL (aw_uI (aw_uI (aw_uI (jnS S a g.n 0 (nI v)) 0 3 0) 115 (10 + g.n) (nI v)) 115 (17 + g.n) (nI g.n)) 116 g.n 0) 115 0 (nI (g.n + 1))) 114 2 0).1 115 i = if i = 0 then nI (g.n + 1) else if i = 17 + g.n then nI g.n else if i = 10 + g.n then nI v else S.1 115 i := by
            intro i
            rw [uI_ne _ _ _ (by omega), uI_at, if_pos rfl, uL_I, uI_at, if_pos rfl, uI_at, if_pos rfl, uI_ne _ _ _ (by omega), o 115 (by omega)]
          have Eo : ∀ k, k ≠ 0 → k ≠ 114 → k ≠ 115 → (aw_uI (aw_uI (aw_uL (aw_uI (aw_uI (aw_uI (jnS S a g.n 0 (nI v)) 0 3 0) 115 (10 + g.n) (nI v)) 115 (17 + g.n) (nI g.n)) 116 g.n 0) 115 0 (nI (g.n + 1))) 114 2 0).1 k = (jnS S a g.n 0 (nI v)).1 k := by
            intro k h1 h2 h3
            rw [uI_ne _ _ _ h2, uI_ne _ _ _ h3, uL_I, uI_ne _ _ _ h3, uI_ne _ _ _ h3, uI_ne _ _ _ h1]
          have E0 : ∀ i, i ≠ 3 → (aw_uI (aw_uI (aw_uL (aw_uI (aw_uI (aw_uI (jnS S a g.n 0 (nI v)) 0 3 0) 115 (10 + g.n) (nI v)) 115 (17 + g.n) (nI g.n)) 116 g.n 0) 115 0 (nI (g.n + 1))) 114 2 0).1 0 i = S.1 0 i := by
            intro i hi
            rw [uI_ne _ _ _ (by omega), uI_ne _ _ _ (by omega), uL_I, uI_ne _ _ _ (by omega), uI_ne _ _ _ (by omega), uI_at, if_pos rfl, if_neg hi, o 0 (by omega)]
          have E4 : ∀ i, i ≠ 2 → (aw_uI (aw_uI (aw_uL (aw_uI (aw_uI (aw_uI (jnS S a g.n 0 (nI v)) 0 3 0) 115 (10 + g.n) (nI v)) 115 (17 + g.n) (nI g.n)) 116 g.n 0) 115 0 (nI (g.n + 1))) 114 2 0).1 114 i = S.1 114 i := by
            intro i hi
            rw [uI_at, if_pos rfl, if_neg hi, uI_ne _ _ _ (by omega), uL_I, uI_ne _ _ _ (by omega), uI_ne _ _ _ (by omega), uI_ne _ _ _ (by omega), o 114 (by omega)]
          have EL : ∀ k i, (aw_uI (aw_uI (aw_uL (aw_uI (aw_uI (aw_uI (jnS S a g.n 0 (nI v)) 0 3 0) 115 (10 + g.n) (nI v)) 115 (17 + g.n) (nI g.n)) 116 g.n 0) 115 0 (nI (g.n + 1))) 114 2 0).2.1 k i = if k = 116 then (if i = g.n then 0 else S.2.1 116 i) else if k = a + 1 then (if i = g.n then 0 else S.2.1 (a + 1) i) else S.2.1 k i := by
            intro k i
            rw [uI_L, uI_L, uL_at, uI_L, uI_L, uI_L, oL, uL_at, uL_at, if_neg (show ¬ 116 = a + 1 by omega)]
          have ES : (aw_uI (aw_uI (aw_uL (aw_uI (aw_uI (aw_uI (jnS S a g.n 0 (nI v)) 0 3 0) 115 (10 + g.n) (nI v)) 115 (17 + g.n) (nI g.n)) 116 g.n 0) 115 0 (nI (g.n + 1))) 114 2 0).1 0 3 = (aw_uI (aw_uI (aw_uL (aw_uI (aw_uI (aw_uI (jnS S a g.n 0 (nI v)) 0 3 0) 115 (10 + g.n) (nI v)) 115 (17 + g.n) (nI g.n)) 116 g.n 0) 115 0 (nI (g.n + 1))) 114 2 0).1 114 2 := by
            rw [uI_ne _ _ _ (by omega), uI_ne _ _ _ (by omega), uL_I, uI_ne _ _ _ (by omega), uI_ne _ _ _ (by omega), uI_at, if_pos rfl, if_pos rfl, uI_at, if_pos rfl, if_pos rfl]
          have ER : (aw_uI (aw_uI (aw_uL (aw_uI (aw_uI (aw_uI (jnS S a g.n 0 (nI v)) 0 3 0) 115 (10 + g.n) (nI v)) 115 (17 + g.n) (nI g.n)) 116 g.n 0) 115 0 (nI (g.n + 1))) 114 2 0).2.2 = S.2.2 := rfl
          revert E115 Eo E0 E4 EL ES ER
          generalize (aw_uI (aw_uI (aw_uL (aw_uI (aw_uI (aw_uI (jnS S a g.n 0 (nI v)) 0 3 0) 115 (10 + g.n) (nI v)) 115 (17 + g.n) (nI g.n)) 116 g.n 0) 115 0 (nI (g.n + 1))) 114 2 0) = T
          intro E115 Eo E0 E4 EL ES ER
          obtain ⟨z0, z1, z2, z3, z4, z5, z6⟩ := id n7
          have hbj := n4.jn hlt hv hm0
          refine hI.gen n1 n2 (fun k j q => ?_) (fun k j q => ?_) (by rw [ER]; exact hI.rf) (a' := a) (b' := b) (by rw [ER]; exact n1) (by rw [ER]; exact n2) (Or.inl ⟨rfl, rfl⟩) ES ?_ ⟨g.n + 1, g.od, g.lg, g.m, g.f, upN g.col g.n v, upN g.std g.n g.n, hbj, ?_, G.fr (fun k q1 q2 => Eo k (by omega) (by omega) (by omega)), ⟨?_, ?_, ?_, ?_, ?_, ?_, ?_⟩, ?_, ?_, ?_⟩
          · by_cases k0 : k = 0
            · subst k0
              exact E0 j (fun z => q (by unfold ZI; omega))
            · by_cases k1 : k = 114
              · subst k1
                exact E4 j (fun z => q (by unfold ZI; omega))
              · by_cases k2 : k = 115
                · subst k2
                  have : ¬ j < 552 := fun z => q (by unfold ZI; omega)
                  rw [E115, if_neg (by omega), if_neg (by omega), if_neg (by omega)]
                · rw [Eo k k0 k1 k2, o k (fun z => q (by unfold ZI; omega))]
          · rw [EL]
            by_cases k0 : k = 116
            · subst k0
              rw [if_pos rfl, if_neg (fun z => q (by unfold ZL; omega))]
            · rw [if_neg k0, if_neg (fun z => q (by unfold ZL; omega))]
          · rw [EL, EL, EL, EL, if_neg (by omega), if_neg (by omega), if_neg (by omega), if_neg (by omega), if_neg (by omega), if_neg (by omega), if_neg (by omega), if_neg (by omega)]
            exact hI.2.1
          · intro j k h1 h2
            omega
          · rw [E115, if_pos rfl]
          · rw [E115, if_neg (by omega), if_neg (by omega), if_neg (by omega)]; exact z1
          · rw [E115, if_neg (by omega), if_neg (by omega), if_neg (by omega)]; exact z2
          · rw [E115, if_neg (by omega), if_neg (by omega), if_neg (by omega)]; exact z3
          · intro k hk
            omega
          · intro e he
            rw [E115, if_neg (by omega), if_neg (by omega)]
            unfold upN
            by_cases q : e = g.n
            · rw [if_pos (by omega), if_pos q]
            · rw [if_neg (by omega), if_neg q]; exact z5 e (by omega)
          · intro p hp
            rw [E115, if_neg (by omega)]
            unfold upN
            by_cases q : p = g.n
            · rw [if_pos (by omega), if_pos q]
            · rw [if_neg (by omega), if_neg (by omega), if_neg q]; exact z6 p (by omega)
          · rw [E115, if_neg (by omega), if_neg (by omega), if_neg (by omega), Eo a (by omega) (by omega) (by omega), oa 3 (by omega), oa 4 (by omega), Nat.zero_add]
            exact n8
          · intro e he
            rw [EL, EL, if_neg (by omega), if_pos rfl, if_pos rfl, Nat.zero_add]
            by_cases q : e = g.n
            · rw [if_pos q, if_pos q]
              exact Or.inl ⟨rfl, rfl⟩
            · rw [if_neg q, if_neg q]
              exact n9 e (by omega)
          · refine (n10.mono (Nat.le_succ g.n)).fr ?_ ?_ ?_ ?_
            · rw [Eo _ (by omega) (by omega) (by omega), o _ (by omega)]
              exact ⟨rfl, rfl⟩
            · intro j _
              rw [Eo _ (by omega) (by omega) (by omega), o _ (by omega), Eo _ (by omega) (by omega) (by omega), o _ (by omega), Eo _ (by omega) (by omega) (by omega), o _ (by omega), Eo _ (by omega) (by omega) (by omega), o _ (by omega), Eo _ (by omega) (by omega) (by omega), o _ (by omega)]
              exact ⟨rfl, rfl, rfl, rfl, rfl⟩
            · intro j h1 h2
              rw [E115, if_neg (by omega), if_neg (by omega), if_neg (by omega)]
            · rw [E115, if_neg (by omega), if_neg (by omega), if_neg (by omega)]
        · rw [e0, e3]
          refine ⟨fun _ => ⟨vp_in_nI (n := 3) (by omega) (by omega), fun z => absurd z q2, fun _ => sp_Md_atHome (d := 198) hM n4 (N.m3 _) (sp_Md_bits p2 ⟨fun z => absurd ?_ q3, fun _ => e_Md_refuse rfl ⟨rfl, hI.st rfl⟩⟩)⟩, fun z => absurd z (fun z => by have := (nI_inj (b := 7) (by omega) (by omega)).mp z; omega)⟩
          rw [p1.mp ((nI_inj (by omega) (by omega)).mp z)]
    · have e7 : g.n = 7 := by
        have : ¬ g.n < 7 := fun z => q (nI_lt (b := 7) z (by omega))
        omega
      rw [e0]
      exact ⟨fun z => absurd (by rw [e7]; rfl) z, fun _ => e_Md_refuse rfl ⟨rfl, hI.st rfl⟩⟩
  · rw [if_neg c]
    exact ⟨fun q => absurd rfl q, fun _ => e_Mg_fail rfl (e_Md_come rfl (sp_isFrom (d := 198) (y := 0) (z := 5) (by decide) (by decide) (fun z => absurd z c) (fun _ => ⟨fun q => absurd rfl q, fun _ => e_Md_refuse rfl ⟨rfl, hI.st rfl⟩⟩)))⟩
