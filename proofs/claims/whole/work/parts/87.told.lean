/-! told, plait, bound -/
theorem inv_cls {S S1 : aw_S} {a b : Nat} {g : GM} {x : Int32} (h : Inv S) (N : NowI S a b g) (F1 : FrI (fun c _ => c = a + 14) S S1) : Inv (aw_uI (aw_uI S1 0 3 x) 114 2 x) := h.scr N (F1.mono (fun k _ q => Or.inl q)) (FrI.refl _ _)
theorem ok_told (l : Launch) : Ok_told l 0 114 sh0 Inv := by
  intro S hI x
  obtain ⟨a, b, g, N⟩ := hI.now
  have hS := N.S hI.rf
  have hM := MdS.mk0 hI.rf
  have hab := N.ab
  obtain ⟨n1, n2, n3, n4, n5, n6, n7, n8, n9, n10⟩ := id N
  have hn : g.n ≤ 7 := n4.1
  have M := N.m3
  have e4 : ∀ y, (aw_uI S 0 3 y).1 115 4 = S.1 a 3 + S.1 a 4 := fun y => by rw [uI_ne _ _ _ (by omega)]; exact n8
  refine e_Mg_told rfl ⟨fun q => e_Mg_fail rfl (e_Md_told rfl ⟨fun _ => e_Md_refuse rfl ⟨rfl, hI.st rfl⟩, ?_, ?_, ?_, ?_, ?_, ?_, ?_, ?_, ?_, ?_⟩), fun q => ⟨a, n1, hS.sa, e_Mg_give rfl ?_⟩, fun q => ⟨a, n1, hS.sa, sp_Gr_gaps (d := 198) hS.sa hn n6.1 (e_Mg_give rfl ?_)⟩, fun q => ⟨a, n1, hS.sa, a + 6, hS.r10, hS.s6, e_Mg_give rfl ?_⟩, fun q => ⟨a, n1, hS.sa, e_Mg_give rfl ?_⟩, fun q => ⟨a, n1, hS.sa, e_Mg_give rfl ?_⟩, fun q => ⟨a, n1, hS.sa, sp_Gr_greatestRow (d := 195) hS n4 n6 (fun S1 F1 => e_Mg_give rfl ?_)⟩, fun q => ⟨a, n1, hS.sa, e_Mg_give rfl ?_⟩, fun q => ⟨a, n1, hS.sa, sp_Gr_atHome (d := 198) hS n4 n6 (e_Mg_give rfl ?_)⟩, fun q => ⟨a, n1, hS.sa, sp_Gr_freeGaps (d := 195) hS n4 n6 (fun w hw => e_Mg_give rfl ?_)⟩, fun q => ⟨a, n1, hS.sa, sp_Gr_coloursShown (d := 197) hS n4 n6 (fun w hw => e_Mg_give rfl ?_)⟩⟩
  iterate 10
    · intro z
      subst z
      exact absurd q (by decide)
  · subst q
    rw [n6.1]
    exact e_Md_told rfl ⟨fun z => absurd z (by decide), fun _ => ⟨115, hM.2.1, 3864, rfl, vp_in_nI (n := 0) (by omega) (by omega), e_Md_gives rfl ⟨(M 0).1.symm, hI.st rfl⟩⟩, fun z => absurd z (by decide), fun z => absurd z (by decide), fun z => absurd z (by decide), fun z => absurd z (by decide), fun z => absurd z (by decide), fun z => absurd z (by decide), fun z => absurd z (by decide), fun z => absurd z (by decide), fun z => absurd z (by decide)⟩
  · subst q
    exact e_Md_told rfl ⟨fun z => absurd z (by decide), fun z => absurd z (by decide), fun _ => sp_Md_gapsOf (s := 0) (d := 198) hM (by omega) hn (M 0).1 (e_Md_gives rfl ⟨rfl, hI.st rfl⟩), fun z => absurd z (by decide), fun z => absurd z (by decide), fun z => absurd z (by decide), fun z => absurd z (by decide), fun z => absurd z (by decide), fun z => absurd z (by decide), fun z => absurd z (by decide), fun z => absurd z (by decide)⟩
  · subst q
    rw [n6.2.2.2.1]
    exact e_Md_told rfl ⟨fun z => absurd z (by decide), fun z => absurd z (by decide), fun z => absurd z (by decide), fun _ => ⟨115, hM.2.1, 3864, rfl, vp_in_nI (n := 3) (by omega) (by omega), e_Md_gives rfl ⟨(M 0).2.2.2.1.symm, hI.st rfl⟩⟩, fun z => absurd z (by decide), fun z => absurd z (by decide), fun z => absurd z (by decide), fun z => absurd z (by decide), fun z => absurd z (by decide), fun z => absurd z (by decide), fun z => absurd z (by decide)⟩
  · subst q
    rw [n6.2.1]
    exact e_Md_told rfl ⟨fun z => absurd z (by decide), fun z => absurd z (by decide), fun z => absurd z (by decide), fun z => absurd z (by decide), fun _ => ⟨115, hM.2.1, 3864, rfl, vp_in_nI (n := 1) (by omega) (by omega), e_Md_gives rfl ⟨(M 0).2.1.symm, hI.st rfl⟩⟩, fun z => absurd z (by decide), fun z => absurd z (by decide), fun z => absurd z (by decide), fun z => absurd z (by decide), fun z => absurd z (by decide), fun z => absurd z (by decide)⟩
  · subst q
    rw [n6.2.2.1]
    exact e_Md_told rfl ⟨fun z => absurd z (by decide), fun z => absurd z (by decide), fun z => absurd z (by decide), fun z => absurd z (by decide), fun z => absurd z (by decide), fun _ => ⟨115, hM.2.1, 3864, rfl, vp_in_nI (n := 2) (by omega) (by omega), e_Md_gives rfl ⟨(M 0).2.2.1.symm, hI.st rfl⟩⟩, fun z => absurd z (by decide), fun z => absurd z (by decide), fun z => absurd z (by decide), fun z => absurd z (by decide), fun z => absurd z (by decide)⟩
  · subst q
    have M1 : MdG (aw_uI S1 0 3 0).1 0 g := n7.fr n4.1 n4.2.2.2.2.1 (fun j _ => by rw [uI_ne _ _ _ (by omega), F1.cell (k := 115) (fun j => by omega)])
    exact e_Md_told rfl ⟨fun z => absurd z (by decide), fun z => absurd z (by decide), fun z => absurd z (by decide), fun z => absurd z (by decide), fun z => absurd z (by decide), fun z => absurd z (by decide), fun _ => sp_Md_laysRows (d := 196) (by rw [uI_R, F1.R]; exact hM) n4 M1 (by rw [uI_R, F1.R]; exact hI.rf.at (by decide)) rfl (fun S2 F2 _ => e_Md_gives rfl ⟨rfl, hI.scr N (F1.mono (fun k _ q => Or.inl q)) (F2.mono (fun k j q => by omega))⟩), fun z => absurd z (by decide), fun z => absurd z (by decide), fun z => absurd z (by decide), fun z => absurd z (by decide)⟩
  · subst q
    exact e_Md_told rfl ⟨fun z => absurd z (by decide), fun z => absurd z (by decide), fun z => absurd z (by decide), fun z => absurd z (by decide), fun z => absurd z (by decide), fun z => absurd z (by decide), fun z => absurd z (by decide), fun _ => ⟨115, hM.2.1, 3864, rfl, vp_in_nI (n := 4) (by omega) (by omega), e_Md_gives rfl ⟨(e4 0).symm, hI.st rfl⟩⟩, fun z => absurd z (by decide), fun z => absurd z (by decide), fun z => absurd z (by decide)⟩
  · subst q
    exact e_Md_told rfl ⟨fun z => absurd z (by decide), fun z => absurd z (by decide), fun z => absurd z (by decide), fun z => absurd z (by decide), fun z => absurd z (by decide), fun z => absurd z (by decide), fun z => absurd z (by decide), fun z => absurd z (by decide), fun _ => sp_Md_atHome (d := 198) hM n4 (M 0) (e_Md_gives rfl ⟨rfl, hI.st rfl⟩), fun z => absurd z (by decide), fun z => absurd z (by decide)⟩
  · subst q
    exact e_Md_told rfl ⟨fun z => absurd z (by decide), fun z => absurd z (by decide), fun z => absurd z (by decide), fun z => absurd z (by decide), fun z => absurd z (by decide), fun z => absurd z (by decide), fun z => absurd z (by decide), fun z => absurd z (by decide), fun z => absurd z (by decide), fun _ => sp_Md_freeGaps (d := 196) hM n4 (M 0) (fun w' hw' => e_Md_gives rfl ⟨by rw [hw.eq hw'], hI.st rfl⟩), fun z => absurd z (by decide)⟩
  · subst q
    exact e_Md_told rfl ⟨fun z => absurd z (by decide), fun z => absurd z (by decide), fun z => absurd z (by decide), fun z => absurd z (by decide), fun z => absurd z (by decide), fun z => absurd z (by decide), fun z => absurd z (by decide), fun z => absurd z (by decide), fun z => absurd z (by decide), fun z => absurd z (by decide), fun _ => sp_Md_howManyShow (d := 195) hM n4 (M 0) (fun w' hw' => e_Md_gives rfl ⟨by rw [hw.eq hw'], hI.st rfl⟩)⟩
theorem ok_bound (l : Launch) : Ok_bound l 0 114 sh0 Inv := by
  intro S hI x
  obtain ⟨a, b, g, N⟩ := hI.now
  have hS := N.S hI.rf
  have hM := MdS.mk0 hI.rf
  have hab := N.ab
  obtain ⟨n1, n2, n3, n4, n5, n6, n7, n8, n9, n10⟩ := id N
  have hn : g.n ≤ 7 := n4.1
  have hm : g.m ≤ 40 := n4.2.2.2.2.1
  have M := N.m3
  refine e_Mg_bound rfl (sp_Mg_isDancer (d := 197) n1 hS.sa hn n6.1 (fun hx => ⟨fun q => absurd q (by decide), fun _ => ⟨a, n1, hS.sa, ?_⟩⟩) (fun hx => ⟨fun _ => e_Mg_fail rfl (e_Md_bound rfl (sp_Md_isDancer (d := 198) hM hn (M _).1 (fun z => absurd z hx) (fun _ => ⟨fun q => absurd rfl q, fun _ => e_Md_refuse rfl ⟨rfl, hI.st rfl⟩⟩))), fun q => absurd rfl q⟩))
  obtain ⟨w, hw, rfl⟩ := id hx
  have hA : ∀ k, k < g.m → ((nI k = -1 ∨ nI (g.f k / 16 % 8) = nI w ∨ nI (g.f k / 128 % 8) = nI w) ↔ (decide (g.f k / 16 % 8 = w) || decide (g.f k / 128 % 8 = w)) = true) := by
    intro k hk
    rw [nI_inj (by omega) (by omega), nI_inj (by omega) (by omega)]
    simp only [Bool.or_eq_true, decide_eq_true_eq]
    constructor
    · rintro (z | z)
      · exact absurd z (nI_ne_m1 (by omega))
      · exact z
    · exact fun z => Or.inr z
  refine sp_Gr_mustGo (d := 196) hS n4 n6 hA (e_Mg_give rfl (e_Md_bound rfl (sp_Md_isDancer (d := 198) hM hn (M _).1 (fun _ => ⟨fun _ => ?_, fun q => absurd q (by decide)⟩) (fun z => absurd hx z))))
  have key : ∀ j k T, k + j = 40 → FrI (fun k _ => k = 124) (aw_uI S 0 3 0) T → (∀ i, i < k → i < g.m → T.1 124 i = bI (decide (g.f i / 16 % 8 = w) || decide (g.f i / 128 % 8 = w))) → AW l m_Md_bound 200 0 0 (gI sh0 (fun y S2 => nI (ctB (hdN g.n g.f (fun k => decide (g.f k / 16 % 8 = w) || decide (g.f k / 128 % 8 = w))) g.m) = y ∧ Inv S2)) 0 0 16 [.ref 114, .int (nI w), .int (nI k)] [] sh0 T := by
    intro j
    induction j with
    | zero =>
      intro k T hk F V
      have hk : k = 40 := hk
      subst hk
      refine s_Md_bound_16 rfl ⟨fun _ => sp_Md_laysHeld (d := 196) (by rw [F.R]; exact hM) n4 (MdG.off n4 (M 0) (F.cell (fun j => by omega))) (by rw [F.R]; exact hI.rf.at (by decide)) rfl (fun k hk => V k (by omega) hk) (fun S2 F2 => e_Md_gives rfl ⟨rfl, hI.scr N (FrI.refl _ _) ((F.trans F2).mono (fun k j q => by omega))⟩), fun q => absurd (by decide) q⟩
    | succ j ih =>
      intro k T hk F V
      have MT := MdG.off n4 (M 0) (F.cell (k := 115) (fun j => by omega))
      have hMT : MdS sh0 T.2.2 := by rw [F.R]; exact hM
      have y3 : T.1 115 3 = nI g.m := MT.2.2.2.1
      have step : ∀ (v : Int32) (b : Bool), v = bI b → (k < g.m → (decide (g.f k / 16 % 8 = w) || decide (g.f k / 128 % 8 = w)) = b) → AW l m_Md_bound 200 0 0 (gI sh0 (fun y S2 => nI (ctB (hdN g.n g.f (fun k => decide (g.f k / 16 % 8 = w) || decide (g.f k / 128 % 8 = w))) g.m) = y ∧ Inv S2)) 0 0 16 [.ref 114, .int (nI w), .int (nI k + 1)] [] sh0 (aw_uI T 124 (nI k).toNatClampNeg v) := by
        intro v b hv hb
        rw [nI_1, nI_clamp (by omega)]
        refine ih (k + 1) _ (by omega) (F.uI _ rfl) (fun i h1 h2 => ?_)
        rw [uI_at, if_pos rfl]
        by_cases e : i = k
        · subst e
          rw [if_pos rfl, hb h2, hv]
        · rw [if_neg e]
          exact V i (by omega) h2
      refine s_Md_bound_16 rfl ⟨fun q => absurd q (nI_ge (b := 40) (by omega) (by omega)), fun _ => ⟨124, by rw [F.R]; exact hI.rf.at (by decide), 115, hMT.2.1, 3864, rfl, vp_in_nI (n := 3) (by omega) (by omega), ?_⟩⟩
      show ((T.1 115 3 ≤ _ → _) ∧ (¬ T.1 115 3 ≤ _ → _))
      rw [y3]
      refine ⟨fun q => ⟨40, rfl, vp_in_nI (by omega) (by omega), ?_⟩, fun q => ?_⟩
      · have := (nI_leI (by omega) (by omega)).mp q
        rw [nar_0]
        exact step 0 false rfl (fun z => by omega)
      · have hk2 : k < g.m := Nat.not_le.mp (fun z => q (nI_le z (by omega)))
        refine sp_Md_passOf (w := 2) (d := 197) hMT n4 MT hk2 (by omega) ⟨fun q1 => ⟨40, rfl, vp_in_nI (by omega) (by omega), ?_⟩, fun q1 => sp_Md_passOf (w := 3) (d := 197) hMT n4 MT hk2 (by omega) ⟨fun q2 => ⟨40, rfl, vp_in_nI (by omega) (by omega), ?_⟩, fun q2 => ⟨40, rfl, vp_in_nI (by omega) (by omega), ?_⟩⟩⟩
        · have q1 : g.f k / 16 % 8 = w := (nI_inj (show fld (g.f k) 2 < 2 ^ 31 by have := fld_lt (g.f k) 2; omega) (by omega)).mp q1
          rw [nar_1]
          exact step 1 true rfl (fun _ => by rw [decide_eq_true q1]; rfl)
        · have q1 : ¬ g.f k / 16 % 8 = w := fun z => q1 (congrArg nI z)
          have q2 : ¬ g.f k / 128 % 8 = w := fun z => q2 (congrArg nI z)
          rw [nar_0]
          exact step 0 false rfl (fun _ => by rw [decide_eq_false q1, decide_eq_false q2]; rfl)
        · have q2 : g.f k / 128 % 8 = w := (nI_inj (show fld (g.f k) 3 < 2 ^ 31 by have := fld_lt (g.f k) 3; omega) (by omega)).mp q2
          rw [nar_1]
          exact step 1 true rfl (fun _ => by rw [decide_eq_true q2, Bool.or_true])
  exact key 40 0 _ (by omega) (FrI.refl _ _) (fun i h => absurd h (Nat.not_lt_zero i))
theorem ok_plait (l : Launch) : Ok_plait l 0 114 sh0 Inv := by
  intro S hI x y
  obtain ⟨a, b, g, N⟩ := hI.now
  have hS := N.S hI.rf
  have hM := MdS.mk0 hI.rf
  have hab := N.ab
  obtain ⟨n1, n2, n3, n4, n5, n6, n7, n8, n9, n10⟩ := id N
  have hn : g.n ≤ 7 := n4.1
  have hm : g.m ≤ 40 := n4.2.2.2.2.1
  have M := N.m3
  refine e_Mg_plait rfl (sp_isWithin ?_)
  by_cases c : 0 ≤ y ∧ y ≤ 6
  · rw [if_pos c]
    refine ⟨fun _ => ⟨a, n1, hS.sa, a + 6, hS.r10, hS.s6, ?_⟩, fun q => absurd q (by decide)⟩
    rw [n6.2.2.2.1]
    refine sp_isWithin ?_
    by_cases c2 : InR x g.m
    · rw [if_pos ((inR_iff (by omega)).mpr c2)]
      obtain ⟨k, hk, rfl⟩ := c2
      obtain ⟨v, hv, rfl⟩ := le_ge (n := 6) (by decide) c
      have ref : ∀ {T : aw_S} {X : Int32 → aw_S → Prop}, MdG T.1 0 g → T.2.2 = S.2.2 → ((((nI v : Int32).toInt < 4 ∨ 6 < (nI v : Int32).toInt) → Sp l m_Md_passOf 199 0 0 [.ref 114, .int (nI k), .int (nI v)] sh0 T (gI sh0 (fun x14 S13 => Sp l m_Md_gives 199 0 0 [.ref 114, .int x14] sh0 S13 (gI sh0 (fun x16 S15 => X x16 S15))))) ∧ (nI v = 4 → Sp l m_Md_laysRows 199 0 0 [.ref 114] sh0 T (gI sh0 (fun x18 S17 => ∃ r19, S17.2.2 114 24 = some r19 ∧ ∃ n21, sh0[r19]? = some (3, n21) ∧ vp_in (nI k) n21 ∧ Sp l m_Md_gives 199 0 0 [.ref 114, .int (S17.1 r19 (nI k).toNatClampNeg)] sh0 S17 (gI sh0 (fun x24 S23 => X x24 S23))))) ∧ (nI v = 5 → Sp l m_Md_isFreeIn 199 0 0 [.ref 114, .int 0, .int (nI k)] sh0 T (gI sh0 (fun x26 S25 => ((x26 = 0 → Sp l m_Md_gives 199 0 0 [.ref 114, .int 0] sh0 S25 (gI sh0 (fun x29 S28 => X x29 S28))) ∧ (¬ x26 = 0 → Sp l m_Md_gives 199 0 0 [.ref 114, .int 1] sh0 S25 (gI sh0 (fun x31 S30 => X x31 S30))))))) ∧ (nI v = 6 → Sp l m_Md_holdsOf 199 0 0 [.ref 114, .int (nI k)] sh0 T (gI sh0 (fun x33 S32 => Sp l m_Md_gives 199 0 0 [.ref 114, .int x33] sh0 S32 (gI sh0 (fun x35 S34 => X x35 S34))))) → Sp l m_Md_plait 200 0 0 [.ref 114, .int (nI k), .int (nI v)] sh0 T (gI sh0 X)) := by
        intro T X MT hR h
        refine e_Md_plait rfl ⟨fun q => absurd q (nI_pos (by omega)), fun _ => ⟨fun _ => ⟨fun q => absurd q (nI_pos (by omega)), fun _ => ⟨115, by rw [hR]; exact hM.2.1, 3864, rfl, vp_in_nI (n := 3) (by omega) (by omega), fun _ => h, fun q => absurd ?_ q⟩⟩, fun q => absurd c.2 q⟩⟩
        have e : T.1 115 (3 : Int32).toNatClampNeg = nI g.m := MT.2.2.2.1
        rw [e]
        exact nI_lt hk (by omega)
      have hvi : (nI v).toInt = (v : Int) := nI_toInt (by omega)
      rw [hvi]
      have pv : ∀ u : Nat, u < 7 → nI v = nI u → v = u := fun u hu z => (nI_inj (by omega) (by omega)).mp z
      refine ⟨fun _ => ⟨fun q => ⟨a, n1, hS.sa, ?_⟩, fun q => ⟨a, n1, hS.sa, a + 6, hS.r10, hS.s6, sp_Pl_gapAt (d := 198) (n6.pl hS n4) hk (e_Mg_give rfl ?_)⟩, fun q => ⟨a, n1, hS.sa, a + 6, hS.r10, hS.s6, sp_Pl_overAt (d := 198) (n6.pl hS n4) hk (e_Mg_give rfl ?_)⟩, fun q => ⟨a, n1, hS.sa, a + 6, hS.r10, hS.s6, sp_Pl_upperAt (d := 198) (n6.pl hS n4) hk (e_Mg_give rfl ?_)⟩, fun q => ⟨a, n1, hS.sa, a + 6, hS.r10, hS.s6, sp_Pl_lowerAt (d := 198) (n6.pl hS n4) hk (e_Mg_give rfl ?_)⟩, fun q => ⟨a, n1, hS.sa, ?_⟩, fun q => ⟨a, n1, hS.sa, sp_Gr_isFree (d := 196) hS n4 n6 hk (fun fr => ⟨fun z => absurd z (by decide), fun _ => e_Mg_give rfl ?_⟩) (fun fr => ⟨fun _ => e_Mg_give rfl ?_, fun z => absurd rfl z⟩)⟩⟩, fun q => absurd q (by decide)⟩
      · have e6 : v = 6 := by omega
        subst e6
        refine sp_Gr_mustGo (d := 196) (A := fun i => decide (i = k)) hS n4 n6 (fun i hi => ?_) (e_Mg_give rfl (ref (M 0) rfl ⟨fun z => absurd z (by decide), fun z => absurd z (by decide), fun z => absurd z (by decide), fun _ => e_Md_holdsOf rfl ?_⟩))
        · rw [nI_inj (by omega) (by omega)]
          simp only [decide_eq_true_eq]
          constructor
          · rintro (z | z | z)
            · exact z
            · exact absurd z (nI_ne_m1 (by omega))
            · exact absurd z (nI_ne_m1 (by omega))
          · exact fun z => Or.inl z
        · have key : ∀ j i T, i + j = 40 → FrI (fun k _ => k = 124) (aw_uI S 0 3 0) T → (∀ i', i' < i → i' < g.m → T.1 124 i' = bI (decide (i' = k))) → AW l m_Md_holdsOf 199 0 0 (gI sh0 (fun x33 S32 => Sp l m_Md_gives 199 0 0 [.ref 114, .int x33] sh0 S32 (gI sh0 (fun y S2 => nI (ctB (hdN g.n g.f (fun i => decide (i = k))) g.m) = y ∧ Inv S2)))) 0 0 2 [.ref 114, .int (nI k), .int (nI i)] [] sh0 T := by
            intro j
            induction j with
            | zero =>
              intro i T hi F V
              have hi : i = 40 := hi
              subst hi
              exact s_Md_holdsOf_2 rfl ⟨fun _ => sp_Md_laysHeld (d := 195) (by rw [F.R]; exact hM) n4 (MdG.off n4 (M 0) (F.cell (fun j => by omega))) (by rw [F.R]; exact hI.rf.at (by decide)) rfl (fun i' h => V i' (by omega) h) (fun S2 F2 => e_Md_gives rfl ⟨rfl, hI.scr N (FrI.refl _ _) ((F.trans F2).mono (fun k j q => by omega))⟩), fun q => absurd (by decide) q⟩
            | succ j ih =>
              intro i T hi F V
              refine s_Md_holdsOf_2 rfl ⟨fun q => absurd q (nI_ge (b := 40) (by omega) (by omega)), fun _ => ⟨124, by rw [F.R]; exact hI.rf.at (by decide), fun q => ⟨40, rfl, vp_in_nI (by omega) (by omega), ?_⟩, fun q => ⟨40, rfl, vp_in_nI (by omega) (by omega), ?_⟩⟩⟩
              · rw [nar_0, nI_1, nI_clamp (by omega)]
                refine ih (i + 1) _ (by omega) (F.uI _ rfl) (fun i' h1 h2 => ?_)
                rw [uI_at, if_pos rfl]
                by_cases e : i' = i
                · rw [if_pos e, decide_eq_false (fun z => q (by rw [← z, e]))]
                  rfl
                · rw [if_neg e]; exact V i' (by omega) h2
              · rw [nar_1, nI_1, nI_clamp (by omega)]
                refine ih (i + 1) _ (by omega) (F.uI _ rfl) (fun i' h1 h2 => ?_)
                rw [uI_at, if_pos rfl]
                by_cases e : i' = i
                · rw [if_pos e, decide_eq_true (e.trans ((nI_inj (by omega) (by omega)).mp q))]
                  rfl
                · rw [if_neg e]; exact V i' (by omega) h2
          exact key 40 0 _ (by omega) (FrI.refl _ _) (fun i h => absurd h (Nat.not_lt_zero i))
      · have e := pv 0 (by omega) q
        subst e
        exact ref (M 0) rfl ⟨fun _ => sp_Md_passOf (w := 0) (d := 197) hM n4 (M 0) hk (by omega) (e_Md_gives rfl ⟨rfl, hI.st rfl⟩), fun z => absurd z (by decide), fun z => absurd z (by decide), fun z => absurd z (by decide)⟩
      · have e := pv 1 (by omega) q
        subst e
        exact ref (M 0) rfl ⟨fun _ => sp_Md_passOf (w := 1) (d := 197) hM n4 (M 0) hk (by omega) (e_Md_gives rfl ⟨rfl, hI.st rfl⟩), fun z => absurd z (by decide), fun z => absurd z (by decide), fun z => absurd z (by decide)⟩
      · have e := pv 2 (by omega) q
        subst e
        exact ref (M 0) rfl ⟨fun _ => sp_Md_passOf (w := 2) (d := 197) hM n4 (M 0) hk (by omega) (e_Md_gives rfl ⟨rfl, hI.st rfl⟩), fun z => absurd z (by decide), fun z => absurd z (by decide), fun z => absurd z (by decide)⟩
      · have e := pv 3 (by omega) q
        subst e
        exact ref (M 0) rfl ⟨fun _ => sp_Md_passOf (w := 3) (d := 197) hM n4 (M 0) hk (by omega) (e_Md_gives rfl ⟨rfl, hI.st rfl⟩), fun z => absurd z (by decide), fun z => absurd z (by decide), fun z => absurd z (by decide)⟩
      · have e := pv 4 (by omega) q
        subst e
        rw [← nI_pred k]
        refine sp_Gr_rowAt (d := 196) hS n4 n6 (show k + 1 ≤ g.m by omega) (fun S1 F1 _ => e_Mg_give rfl ?_)
        rw [if_neg (by omega), Nat.add_sub_cancel, nI_pred]
        have M1 : MdG (aw_uI S1 0 3 0).1 0 g := n7.fr n4.1 n4.2.2.2.2.1 (fun j _ => by rw [uI_ne _ _ _ (by omega), F1.cell (k := 115) (fun j => by omega)])
        refine ref M1 F1.R ⟨fun z => absurd z (by decide), fun _ => sp_Md_laysRows (d := 196) (by rw [uI_R, F1.R]; exact hM) n4 M1 (by rw [uI_R, F1.R]; exact hI.rf.at (by decide)) rfl (fun S2 F2 V => ⟨123, by rw [F2.R, uI_R, F1.R]; exact hI.rf.at (by decide), 40, rfl, vp_in_nI (by omega) (by omega), e_Md_gives rfl ⟨?_, hI.scr N (F1.mono (fun k _ q => Or.inl q)) (F2.mono (fun k j q => by omega))⟩⟩), fun z => absurd z (by decide), fun z => absurd z (by decide)⟩
        rw [nI_clamp (by omega), V k hk]
      · have e := pv 5 (by omega) q
        subst e
        exact ref (M 0) rfl ⟨fun z => absurd z (by decide), fun z => absurd z (by decide), fun _ => sp_Md_isFreeIn (s := 0) (d := 197) hM (by omega) n4 (M 0) hk (fun _ => ⟨fun z => absurd z (by decide), fun _ => e_Md_gives rfl ⟨rfl, hI.st rfl⟩⟩) (fun z => absurd fr z), fun z => absurd z (by decide)⟩
      · have e := pv 5 (by omega) q
        subst e
        exact ref (M 0) rfl ⟨fun z => absurd z (by decide), fun z => absurd z (by decide), fun _ => sp_Md_isFreeIn (s := 0) (d := 197) hM (by omega) n4 (M 0) hk (fun z => absurd z fr) (fun _ => ⟨fun _ => e_Md_gives rfl ⟨rfl, hI.st rfl⟩, fun z => absurd rfl z⟩), fun z => absurd z (by decide)⟩
    · rw [if_neg (fun z => c2 ((inR_iff (by omega)).mp z))]
      refine ⟨fun q => absurd rfl q, fun _ => e_Mg_fail rfl (e_Md_plait rfl ⟨fun q => absurd c.1 (Int32.not_le.mpr q), fun _ => ⟨fun _ => ⟨fun _ => e_Md_refuse rfl ⟨rfl, hI.st rfl⟩, fun q => ⟨115, hM.2.1, 3864, rfl, vp_in_nI (n := 3) (by omega) (by omega), fun q2 => absurd ?_ c2, fun _ => e_Md_refuse rfl ⟨rfl, hI.st rfl⟩⟩⟩, fun q => absurd c.2 q⟩⟩)⟩
      have e : (aw_uI S 0 3 6).1 115 (3 : Int32).toNatClampNeg = nI g.m := (M 6).2.2.2.1
      rw [e] at q2
      obtain ⟨j, hj, rfl⟩ := nI_of q
      exact ⟨j, (nI_ltI hj (by omega)).mp q2, rfl⟩
  · rw [if_neg c]
    exact ⟨fun q => absurd rfl q, fun _ => e_Mg_fail rfl (e_Md_plait rfl ⟨fun _ => e_Md_refuse rfl ⟨rfl, hI.st rfl⟩, fun q => ⟨fun q2 => absurd ⟨Int32.not_lt.mp q, q2⟩ c, fun _ => e_Md_refuse rfl ⟨rfl, hI.st rfl⟩⟩⟩)⟩
