/-! rule, dancer, come -/
def odG (g : GM) (v : Nat) : GM := (g.n, v, g.lg, g.m, g.f, g.col, g.std)
def lgG (g : GM) (v : Nat) : GM := (g.n, g.od, v, g.m, g.f, g.col, g.std)
theorem inv_rule {S : aw_S} {a b v j : Nat} {g : GM} (hI : Inv S) (N : NowI S a b g) (h : (j = 1 ∧ v ≤ 16) ∨ (j = 2 ∧ 1 ≤ v ∧ v ≤ 40)) : Inv (aw_uI (aw_uI (aw_uI (aw_uI S a j (nI v)) 0 3 0) 115 j (nI v)) 114 2 0) := by
  have hab := N.ab
  obtain ⟨n1, n2, n3, n4, n5, n6, n7, n8, n9, n10⟩ := id N
  have hn : g.n ≤ 7 := n4.1
  have o : ∀ i, i ≠ j → (aw_uI (aw_uI (aw_uI S a j (nI v)) 0 3 0) 115 j (nI v)).1 115 i = S.1 115 i := fun i hi => by rw [uI_at, if_pos rfl, if_neg hi, uI_ne _ _ _ (by omega), uI_ne _ _ _ (by omega)]
  have oj : (aw_uI (aw_uI (aw_uI S a j (nI v)) 0 3 0) 115 j (nI v)).1 115 j = nI v := by rw [uI_at, if_pos rfl, if_pos rfl]
  have q : ∀ i, i ≠ j → (aw_uI S a j (nI v)).1 a i = S.1 a i := fun i hi => by rw [uI_at, if_pos rfl, if_neg hi]
  have qj : (aw_uI S a j (nI v)).1 a j = nI v := by rw [uI_at, if_pos rfl, if_pos rfl]
  have qo : ∀ k, k ≠ a → (aw_uI S a j (nI v)).1 k = S.1 k := fun k hk => uI_ne _ _ _ hk
  obtain ⟨b1, b2, b3, b4, b5, b6, b7, b8, b9⟩ := id n4
  obtain ⟨y0, y1, y2, y3, y4, y5, y6, y7⟩ := id n6
  obtain ⟨z0, z1, z2, z3, z4, z5, z6⟩ := id n7
  have hd : (aw_uI (aw_uI (aw_uI S a j (nI v)) 0 3 0) 115 j (nI v)).1 115 4 = (aw_uI S a j (nI v)).1 a 3 + (aw_uI S a j (nI v)).1 a 4 := by
    rw [o 4 (by omega), q 3 (by omega), q 4 (by omega)]
    exact n8
  have F1 : FrI (fun k j => YI a k j ∧ k ≠ 115 ∧ ¬ (k = 114 ∧ j = 2)) S (aw_uI S a j (nI v)) := (FrI.refl _ S).uI _ (by unfold YI; omega)
  have F2 : FrI (fun k j => YI a k j ∧ ¬ (a ≤ k ∧ k ≤ a + 7) ∧ ¬ (k = 0 ∧ j = 3)) (aw_uI (aw_uI S a j (nI v)) 0 3 0) (aw_uI (aw_uI (aw_uI S a j (nI v)) 0 3 0) 115 j (nI v)) := (FrI.refl _ _).uI _ (by unfold YI; omega)
  rcases h with ⟨rfl, h⟩ | ⟨rfl, h1, h2⟩
  · refine hI.fin (g' := odG g v) N F1 F2 ⟨b1, h, b3, b4, b5, b6, b7, b8, b9⟩ rfl n5 ⟨(q 0 (by omega)).trans y0, qj, (q 2 (by omega)).trans y2, ?_, ?_, ?_, ?_, ?_⟩ ⟨(o _ (by omega)).trans z0, oj, (o _ (by omega)).trans z2, (o _ (by omega)).trans z3, fun k hk => ?_, fun c hc => (o _ (by omega)).trans (z5 c hc), fun p hp => (o _ (by omega)).trans (z6 p hp)⟩ hd
    · rw [qo _ (by omega)]; exact y3
    · rw [qo _ (by omega)]; exact y4
    · rw [qo _ (by omega)]; exact y5
    · rw [qo _ (by omega), qo _ (by omega)]; exact y6
    · rw [qo _ (by omega)]; exact y7
    · rw [o _ (by omega), o _ (by omega), o _ (by omega), o _ (by omega)]
      exact z4 k hk
  · refine hI.fin (g' := lgG g v) N F1 F2 ⟨b1, b2, h1, h2, b5, b6, b7, b8, b9⟩ rfl n5 ⟨(q 0 (by omega)).trans y0, (q 1 (by omega)).trans y1, qj, ?_, ?_, ?_, ?_, ?_⟩ ⟨(o _ (by omega)).trans z0, (o _ (by omega)).trans z1, oj, (o _ (by omega)).trans z3, fun k hk => ?_, fun c hc => (o _ (by omega)).trans (z5 c hc), fun p hp => (o _ (by omega)).trans (z6 p hp)⟩ hd
    · rw [qo _ (by omega)]; exact y3
    · rw [qo _ (by omega)]; exact y4
    · rw [qo _ (by omega)]; exact y5
    · rw [qo _ (by omega), qo _ (by omega)]; exact y6
    · rw [qo _ (by omega)]; exact y7
    · rw [o _ (by omega), o _ (by omega), o _ (by omega), o _ (by omega)]
      exact z4 k hk
theorem le_ge1 {x : Int32} (h : 1 ≤ x ∧ x ≤ 40) : ∃ v, 1 ≤ v ∧ v ≤ 40 ∧ x = nI v := by
  obtain ⟨v, hv, rfl⟩ := le_ge (n := 40) (M := 40) (by decide) ⟨Int32.le_trans (by decide) h.1, h.2⟩
  exact ⟨v, (nI_leI (a := 1) (by omega) (by omega)).mp h.1, hv, rfl⟩
theorem ok_rule (l : Launch) : Ok_rule l 0 114 sh0 Inv := by
  intro S hI x y
  obtain ⟨a, b, g, N⟩ := hI.now
  have hS := N.S hI.rf
  have hM := MdS.mk0 hI.rf
  have hab := N.ab
  obtain ⟨n1, n2, n3, n4, n5, n6, n7, n8, n9, n10⟩ := id N
  by_cases h3 : x = 3
  · have h4 : ¬ x = 4 := by rw [h3]; decide
    refine e_Mg_rule rfl ⟨fun q => absurd h3 q, fun _ => sp_isWithin ?_⟩
    by_cases c : 0 ≤ y ∧ y ≤ 16
    · rw [if_pos c]
      obtain ⟨v, hv, rfl⟩ := le_ge (n := 16) (by decide) c
      exact ⟨fun q => absurd q (by decide), fun _ => ⟨a, n1, hS.sa, e_Mg_grant rfl ⟨Or.inr rfl, e_Md_rule rfl ⟨fun _ => ⟨fun q => absurd h3 q, fun _ => ⟨fun q => absurd h3 q, fun _ => sp_isFrom (y := 0) (z := 16) (by decide) (by decide) (fun _ => ⟨fun _ => ⟨115, hM.2.1, fun q => absurd h3 q, fun _ => ⟨3864, rfl, vp_in_nI (n := 1) (by omega) (by omega), sp_is0 ⟨Or.inr rfl, rfl, inv_rule hI N (Or.inl ⟨rfl, hv⟩)⟩⟩⟩, fun q => absurd q (by decide)⟩) (fun z => absurd c z)⟩⟩, fun q => absurd h3 q⟩⟩⟩⟩
    · rw [if_neg c]
      exact ⟨fun _ => ⟨fun _ => e_Mg_refuse rfl ⟨Or.inl rfl, e_Md_rule rfl ⟨fun _ => ⟨fun q => absurd h3 q, fun _ => ⟨fun q => absurd h3 q, fun _ => sp_isFrom (y := 0) (z := 16) (by decide) (by decide) (fun z => absurd z c) (fun _ => ⟨fun q => absurd rfl q, fun _ => sp_is1 (by decide) ⟨Or.inl rfl, rfl, hI.st rfl⟩⟩)⟩⟩, fun q => absurd h3 q⟩⟩, fun q => absurd q h4⟩, fun q => absurd rfl q⟩
  · by_cases h4 : x = 4
    · refine e_Mg_rule rfl ⟨fun _ => ⟨fun q => absurd h4 q, fun _ => sp_isWithin ?_⟩, fun q => absurd q h3⟩
      by_cases c : 1 ≤ y ∧ y ≤ 40
      · rw [if_pos c]
        obtain ⟨v, hv1, hv, rfl⟩ := le_ge1 c
        exact ⟨fun q => absurd q (by decide), fun _ => ⟨a, n1, hS.sa, e_Mg_grant rfl ⟨Or.inr rfl, e_Md_rule rfl ⟨fun q => absurd q h3, fun _ => ⟨fun q => absurd h4 q, fun _ => ⟨fun _ => ⟨fun _ => sp_isFrom (y := 1) (z := 40) (by decide) (by decide) (fun _ => ⟨fun _ => ⟨115, hM.2.1, fun _ => ⟨3864, rfl, vp_in_nI (n := 2) (by omega) (by omega), sp_is0 ⟨Or.inr rfl, rfl, inv_rule hI N (Or.inr ⟨rfl, hv1, hv⟩)⟩⟩, fun q => absurd q h3⟩, fun q => absurd q (by decide)⟩) (fun z => absurd c z), fun q => absurd q h3⟩, fun q => absurd q h3⟩⟩⟩⟩⟩⟩
      · rw [if_neg c]
        exact ⟨fun _ => e_Mg_refuse rfl ⟨Or.inl rfl, e_Md_rule rfl ⟨fun q => absurd q h3, fun _ => ⟨fun q => absurd h4 q, fun _ => ⟨fun _ => ⟨fun _ => sp_isFrom (y := 1) (z := 40) (by decide) (by decide) (fun z => absurd z c) (fun _ => ⟨fun q => absurd rfl q, fun _ => sp_is1 (by decide) ⟨Or.inl rfl, rfl, hI.st rfl⟩⟩), fun q => absurd q h3⟩, fun q => absurd q h3⟩⟩⟩⟩, fun q => absurd rfl q⟩
    · exact e_Mg_rule rfl ⟨fun _ => ⟨fun _ => e_Mg_refuse rfl ⟨Or.inl rfl, e_Md_rule rfl ⟨fun q => absurd q h3, fun _ => ⟨fun _ => sp_is1 (by decide) ⟨Or.inl rfl, rfl, hI.st rfl⟩, fun q => absurd q h4⟩⟩⟩, fun q => absurd q h4⟩, fun q => absurd q h3⟩
theorem us_two {g : GM} (hb : bdG g) (w : Nat) : ∀ k, k ≤ g.m → usN g.f w k = tmW g.f 2 w k + tmW g.f 3 w k := by
  intro k
  induction k with
  | zero => exact fun _ => rfl
  | succ k ih =>
    intro hk
    have hne := (hb.2.2.2.2.2.1 k hk).2.2.2.2
    rw [us_s, tmW_s, tmW_s, ih (by omega)]
    unfold iN
    show _ = tmW g.f 2 w k + (if g.f k / 16 % 8 = w then 1 else 0) + (tmW g.f 3 w k + (if g.f k / 128 % 8 = w then 1 else 0))
    by_cases e1 : g.f k / 16 % 8 = w
    · rw [if_pos (Or.inl e1), if_pos e1, if_neg (fun z => hne (e1.trans z.symm))]
      omega
    · rw [if_neg e1]
      by_cases e2 : g.f k / 128 % 8 = w
      · rw [if_pos (Or.inr e2), if_pos e2]
        omega
      · rw [if_neg (fun z => z.elim e1 e2), if_neg e2]
        omega
theorem ok_dancer (l : Launch) : Ok_dancer l 0 114 sh0 Inv := by
  intro S hI x y
  obtain ⟨a, b, g, N⟩ := hI.now
  have hS := N.S hI.rf
  have hM := MdS.mk0 hI.rf
  have hab := N.ab
  obtain ⟨n1, n2, n3, n4, n5, n6, n7, n8, n9, n10⟩ := id N
  have hn : g.n ≤ 7 := n4.1
  refine e_Mg_dancer rfl (sp_Mg_isDancer (d := 197) n1 hS.sa hn n6.1 (fun hx => ⟨fun _ => ?_, fun q => absurd q (by decide)⟩) (fun hx => ⟨fun q => absurd rfl q, fun _ => e_Mg_fail rfl (e_Md_dancer rfl (sp_Md_isDancer (d := 198) hM hn (N.m3 _).1 (fun z => absurd z hx) (fun _ => ⟨fun q => absurd rfl q, fun _ => e_Md_refuse rfl ⟨rfl, hI.st rfl⟩⟩)))⟩))
  obtain ⟨k, hk, rfl⟩ := id hx
  have rf : ∀ {A : Prop} {T : aw_S} {X : Int32 → aw_S → Prop}, T.1 115 0 = nI g.n → MdS sh0 T.2.2 → (X 1 T) → Sp l m_Md_isDancer 199 0 0 [.ref 114, .int (nI k)] sh0 T (gI sh0 X) := fun h0 hm h => sp_Md_isDancer (d := 198) hm hn h0 (fun _ => h) (fun z => absurd hx z)
  obtain ⟨p, hp, rfl⟩ := std_inv n4 hk
  refine ⟨fun q => e_Mg_fail rfl ?_, fun q => ⟨a, n1, hS.sa, a + 3, hS.r7, 7, hS.s3, vp_in_nI (by omega) (by omega), e_Mg_give rfl ?_⟩, fun q => ⟨a, n1, hS.sa, a + 2, hS.r6, 7, hS.s2, vp_in_nI (by omega) (by omega), e_Mg_give rfl ?_⟩, fun q => ⟨a, n1, hS.sa, sp_Gr_left (d := 197) hS n4 n6 hk (e_Mg_give rfl ?_)⟩, fun q => ⟨a, n1, hS.sa, a + 6, hS.r10, hS.s6, sp_Pl_timesOver (d := 197) (n6.pl hS n4) (by omega) (e_Mg_give rfl ?_)⟩, fun q => ⟨a, n1, hS.sa, a + 4, hS.r8, 7, hS.s4, vp_in_nI (by omega) (by omega), a + 6, hS.r10, hS.s6, sp_Pl_timesOver (d := 197) (n6.pl hS n4) (by omega) (e_Mg_give rfl ?_)⟩⟩
  · refine e_Md_dancer rfl (rf (A := True) (N.m3 _).1 hM ⟨fun _ => ⟨fun _ => e_Md_refuse rfl ⟨rfl, hI.st rfl⟩, ?_, ?_, ?_, ?_, ?_⟩, fun q => absurd q (by decide)⟩)
    all_goals
      intro z
      subst z
      exact absurd q (by decide)
  · subst q
    rw [nI_clamp (by omega), (n6.2.2.2.2.2.2.1 p hp).2]
    exact e_Md_dancer rfl (rf (A := True) (N.m3 _).1 hM ⟨fun _ => ⟨fun z => absurd z (by decide), fun _ => sp_Md_placeOf (d := 198) hM n4 (N.m3 _) hp (e_Md_gives rfl ⟨rfl, hI.st rfl⟩), fun z => absurd z (by decide), fun z => absurd z (by decide), fun z => absurd z (by decide), fun z => absurd z (by decide)⟩, fun q => absurd q (by decide)⟩)
  · subst q
    rw [nI_clamp (by omega), n6.2.2.2.2.2.1 _ hk]
    refine e_Md_dancer rfl (rf (A := True) (N.m3 _).1 hM ⟨fun _ => ⟨fun z => absurd z (by decide), fun z => absurd z (by decide), fun _ => ⟨115, hM.2.1, 3864, rfl, ?_⟩, fun z => absurd z (by decide), fun z => absurd z (by decide), fun z => absurd z (by decide)⟩, fun q => absurd q (by decide)⟩)
    rw [nB10, nI_clamp (by omega), (N.m3 0).c5 hk]
    exact ⟨vp_in_nI (by omega) (by omega), e_Md_gives rfl ⟨rfl, hI.st rfl⟩⟩
  · subst q
    exact e_Md_dancer rfl (rf (A := True) (N.m3 _).1 hM ⟨fun _ => ⟨fun z => absurd z (by decide), fun z => absurd z (by decide), fun z => absurd z (by decide), fun _ => sp_Md_leftOf (s := 0) (d := 197) hM (by omega) n4 (N.m3 _) hk (e_Md_gives rfl ⟨rfl, hI.st rfl⟩), fun z => absurd z (by decide), fun z => absurd z (by decide)⟩, fun q => absurd q (by decide)⟩)
  · subst q
    exact e_Md_dancer rfl (rf (A := True) (N.m3 _).1 hM ⟨fun _ => ⟨fun z => absurd z (by decide), fun z => absurd z (by decide), fun z => absurd z (by decide), fun z => absurd z (by decide), fun _ => sp_Md_wentSo (w := 2) (d := 196) hM n4 (N.m3 _) (by omega) (by omega) (e_Md_gives rfl ⟨rfl, hI.st rfl⟩), fun z => absurd z (by decide)⟩, fun q => absurd q (by decide)⟩)
  · subst q
    rw [nI_clamp (by omega), n6.2.2.2.2.2.2.2 _ hk, us_two n4 _ g.m (Nat.le_refl _), pk_sub (by omega), Nat.add_sub_cancel_left]
    exact e_Md_dancer rfl (rf (A := True) (N.m3 _).1 hM ⟨fun _ => ⟨fun z => absurd z (by decide), fun z => absurd z (by decide), fun z => absurd z (by decide), fun z => absurd z (by decide), fun z => absurd z (by decide), fun _ => sp_Md_wentSo (w := 3) (d := 196) hM n4 (N.m3 _) (by omega) (by omega) (e_Md_gives rfl ⟨rfl, hI.st rfl⟩)⟩, fun q => absurd q (by decide)⟩)
