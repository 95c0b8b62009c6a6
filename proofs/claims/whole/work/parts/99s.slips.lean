/-! same, apart, slips, slipAt: the calls -/
def DiX (k _j : Nat) : Prop := k = 109 ∨ k = 110
section SL
variable {l : Launch} {S : aw_S} {a b : Nat} {g : GM} {t n : Nat} {c : Nat → Nat}
theorem Inv.cmp {U V : aw_S} {s : Int32} (hI : Inv S) (N : NowI S a b g) (F1 : FrI DiX S U) (F2 : FrI CmX (aw_uI U 0 3 s) V) : Inv (aw_uI V 114 2 s) :=
  hI.scr N (F1.mono (fun k j q => by unfold DiX at q; omega)) (F2.mono (fun k j q => by unfold CmX at q; omega))
theorem dance_mg {U : aw_S} {X : Int32 → aw_S → Prop} {fl : Int32} (hI : Inv S) (N : NowI S a b g) (ht : t < 4) (hn40 : n ≤ 40) (hc : ∀ i, i < n → c i < 2 * gpN g.n) (hV : ∀ i, i < n → S.2.1 (3 + 2 * t) i = lN (c i)) (F : FrI DiX S U) (h : ∀ V, FrI DiX S V → X (nI (avN g c n fl)) V) : ∃ r4, U.2.2 0 0 = some r4 ∧ ∃ n6, sh0[r4]? = some (5, n6) ∧ vp_in (nI t) n6 ∧ ∃ r8, U.2.2 r4 (nI t : Int32).toNatClampNeg = some r8 ∧ Sp l m_Mg_passesApart 199 0 0 [.ref 0, .ref r8, .int (nI n), .int fl] sh0 U (gI sh0 X) := by
  have hab := N.2.2.1
  obtain ⟨n1, n2, n3, n4, n5, n6, n7, n8, n9, n10⟩ := id N
  have hRU : RefsOk U.2.2 := by rw [F.R]; exact hI.rf
  obtain ⟨g1, g2⟩ := rf_tray hRU ht
  refine ⟨1, hRU.at (by decide), 4, rfl, vp_in_nI (by omega) (by omega), 2 + 2 * t, by rw [nI_clamp (by omega)]; exact g1, sp_passesApart (d := 195) (a := a) (g := g) (by omega) hRU (by rw [F.R]; exact n1) n4 n5 (n6.fr (fun c q1 q2 => F.cell (fun j => by unfold DiX; omega))) ht hn40 hc (fun i hi => by rw [F.L]; exact hV i hi) (fun V FV => h V (F.trans FV))⟩
theorem dance_md {D : Nat} {U V : aw_S} {X : Int32 → aw_S → Prop} {fl s : Int32} (hI : Inv S) (N : NowI S a b g) (ht : t < 4) (hn40 : n ≤ 40) (hc : ∀ i, i < n → c i < 2 * gpN g.n) (hM : ∀ i, i < n → S.2.1 119 (60 * t + i) = lN (c i)) (F1 : FrI DiX S U) (F2 : FrI CmX (aw_uI U 0 3 s) V) (h : ∀ W, FrI CmX (aw_uI U 0 3 s) W → X (nI (avN g c n fl)) W) : Sp l m_Md_laysDance (D + 1 + 1 + 1 + 1 + 1) 0 0 [.ref 114, .int (nI t), .int (nI n), .int fl] sh0 V (gV sh0 (fun S4 => Sp l m_Md_apartNow (D + 1 + 1 + 1 + 1 + 1) 0 0 [.ref 114] sh0 S4 (gI sh0 X))) := by
  obtain ⟨n1, n2, n3, n4, n5, n6, n7, n8, n9, n10⟩ := id N
  have hRV : RefsOk V.2.2 := by rw [F2.R, uI_R, F1.R]; exact hI.rf
  have MV : MdG V.1 0 g := n7.fr n4.1 n4.2.2.2.2.1 (fun j _ => by rw [F2.1 115 _ (by unfold CmX; omega), uI_ne _ _ _ (by omega), F1.1 115 _ (by unfold DiX; omega)])
  exact sp_md_apart (d := D) hRV n4 n5 MV ht hn40 hc (fun i hi => by rw [F2.L, uI_L, F1.L]; exact hM i hi) (fun W FW => h W (F2.trans FW))
theorem dance_k2 {U : aw_S} {s : Int32} {P : Int32 → aw_S → Prop} {x y : Int32} (hI : Inv S) (F : FrI DiX S U) (k2 : ∀ S' (P : Int32 → aw_S → Prop), RefsOk S'.2.2 → S'.2.1 119 = S.2.1 119 → S'.1 118 = S.1 118 → S'.1 115 0 = S.1 115 0 → P 0 S' → Sp l m_Md_wrongDance 199 0 0 [.ref 114, .int x, .int y] sh0 S' (gI sh0 P)) (hP : P 0 (aw_uI U 0 3 s)) : Sp l m_Md_wrongDance 199 0 0 [.ref 114, .int x, .int y] sh0 (aw_uI U 0 3 s) (gI sh0 P) :=
  k2 _ _ (by rw [uI_R, F.R]; exact hI.rf) (by rw [uI_L, F.L]) (by rw [uI_ne _ _ _ (by omega)]; exact F.cell (fun j => by unfold DiX; omega)) (by rw [uI_ne _ _ _ (by omega)]; exact F.1 115 0 (by unfold DiX; omega)) hP
end SL
theorem ok_same (l : Launch) : Ok_same l 0 114 sh0 Inv := by
  intro S hI x y
  obtain ⟨a, b, g, N⟩ := hI.now
  rcases dance_cases (l := l) hI N x y with ⟨e, e1, e2, k1, k2⟩ | ⟨t, n, c, ht, hn40, rfl, rfl, hc, hV, hM, k1, k2⟩
  · exact e_Mg_same rfl (k1 _ ⟨fun q => absurd q e1, fun _ => e_Mg_fail rfl (e_Md_same rfl (k2 e _ ⟨fun q => absurd q e2, fun _ => e_Md_refuse rfl ⟨rfl, hI.st rfl⟩⟩))⟩)
  · refine e_Mg_same rfl (k1 _ ⟨fun _ => dance_mg hI N ht hn40 hc hV (FrI.refl _ _) (fun U F => ⟨fun q => e_Mg_give rfl (e_Md_same rfl (dance_k2 hI F k2 ⟨fun _ => dance_md (D := 194) hI N ht hn40 hc hM F (FrI.refl _ _) (fun W FW => ⟨fun _ => e_Md_gives rfl ⟨rfl, hI.cmp N F FW⟩, fun q2 => absurd q2 q⟩), fun q => absurd (by decide) q⟩)), fun q => e_Mg_give rfl (e_Md_same rfl (dance_k2 hI F k2 ⟨fun _ => dance_md (D := 194) hI N ht hn40 hc hM F (FrI.refl _ _) (fun W FW => ⟨fun q2 => absurd q q2, fun _ => e_Md_gives rfl ⟨rfl, hI.cmp N F FW⟩⟩), fun q => absurd (by decide) q⟩))⟩), fun q => absurd rfl q⟩)
theorem ok_apart (l : Launch) : Ok_apart l 0 114 sh0 Inv := by
  intro S hI x y
  obtain ⟨a, b, g, N⟩ := hI.now
  rcases dance_cases (l := l) hI N x y with ⟨e, e1, e2, k1, k2⟩ | ⟨t, n, c, ht, hn40, rfl, rfl, hc, hV, hM, k1, k2⟩
  · exact e_Mg_apart rfl (k1 _ ⟨fun _ => e_Mg_fail rfl (e_Md_apart rfl (k2 e _ ⟨fun q => absurd q e2, fun _ => e_Md_refuse rfl ⟨rfl, hI.st rfl⟩⟩)), fun q => absurd q e1⟩)
  · refine e_Mg_apart rfl (k1 _ ⟨fun q => absurd rfl q, fun _ => dance_mg hI N ht hn40 hc hV (FrI.refl _ _) (fun U F => e_Mg_give rfl (e_Md_apart rfl (dance_k2 hI F k2 ⟨fun _ => dance_md (D := 194) hI N ht hn40 hc hM F (FrI.refl _ _) (fun W FW => e_Md_gives rfl ⟨rfl, hI.cmp N F FW⟩), fun q => absurd (by decide) q⟩)))⟩)
/-- how many slips there are ahead of a place -/
def slN (g : GM) (c : Nat → Nat) (n : Nat) : Nat → Nat
  | 0 => 0
  | k + 1 => slN g c n k + (if avN g c n (nI k) = 0 then 1 else 0)
theorem sl_le (g : GM) (c : Nat → Nat) (n : Nat) : ∀ k, slN g c n k ≤ k := by
  intro k
  induction k with
  | zero => exact Nat.le_refl _
  | succ k ih =>
    unfold slN
    split <;> omega
theorem av0 {g : GM} {c : Nat → Nat} {n : Nat} {fl : Int32} (hb : bdG g) (hn : n ≤ 40) : nI (avN g c n fl) = 0 ↔ avN g c n fl = 0 := by
  have h1 := av_le g c n fl
  have h2 : g.m ≤ 40 := hb.2.2.2.2.1
  exact nI_inj (b := 0) (by omega) (by omega)
theorem sl_1 {g : GM} {c : Nat → Nat} {n k : Nat} (h : avN g c n (nI k) = 0) : slN g c n (k + 1) = slN g c n k + 1 := by
  conv => lhs; unfold slN
  rw [if_pos h]
theorem sl_0 {g : GM} {c : Nat → Nat} {n k : Nat} (h : avN g c n (nI k) ≠ 0) : slN g c n (k + 1) = slN g c n k := by
  conv => lhs; unfold slN
  rw [if_neg h, Nat.add_zero]
theorem ok_slips (l : Launch) : Ok_slips l 0 114 sh0 Inv := by
  intro S hI x y
  obtain ⟨a, b, g, N⟩ := hI.now
  have n4 := N.2.2.2.1
  have gm : g.m ≤ 40 := n4.2.2.2.2.1
  rcases dance_cases (l := l) hI N x y with ⟨e, e1, e2, k1, k2⟩ | ⟨t, n, c, ht, hn40, rfl, rfl, hc, hV, hM, k1, k2⟩
  · exact e_Mg_slips rfl (k1 _ ⟨fun q => absurd q e1, fun _ => e_Mg_fail rfl (e_Md_slips rfl (k2 e _ ⟨fun q => absurd q e2, fun _ => e_Md_refuse rfl ⟨rfl, hI.st rfl⟩⟩))⟩)
  · have ref : ∀ U, FrI DiX S U → ∀ j k V, k + j = n → FrI CmX (aw_uI U 0 3 0) V → AW l m_Md_slipOf 199 0 0 (gI sh0 (fun x5 S4 => Sp l m_Md_gives 199 0 0 [.ref 114, .int x5] sh0 S4 (gI sh0 (fun y S2 => nI (slN g c n n) = y ∧ Inv S2)))) 0 0 6 [.ref 114, .int (nI t), .int (nI n), .int (-1), .int (nI (slN g c n k)), .int (nI k)] [] sh0 V := by
      intro U F j
      induction j with
      | zero =>
        intro k V hk FV
        have hk : k = n := hk
        subst hk
        exact s_Md_slipOf_6 rfl ⟨fun _ => ⟨fun q => absurd q (by decide), fun _ => e_Md_gives rfl ⟨rfl, hI.cmp N F FV⟩⟩, fun q => absurd (nI_le (Nat.le_refl _) (by omega)) q⟩
      | succ j ih =>
        intro k V hk FV
        have sl := sl_le g c n k
        have al := av_le g c n (nI k)
        refine s_Md_slipOf_6 rfl ⟨fun q => absurd q (nI_ge (by omega) (by omega)), fun _ => dance_md (D := 193) (fl := nI k) hI N ht hn40 hc hM F FV (fun W FW => ?_)⟩
        rw [nI_1, nI_1]
        have e := ih (k + 1) W (by omega) FW
        refine ⟨fun q => ⟨fun _ => ?_, fun z => absurd z (nI_ne_m1 (by omega))⟩, fun q => ?_⟩
        · have z : avN g c n (nI k) = 0 := by
            have := (nI_leI (b := 0) (by omega) (by omega)).mp q
            omega
          rw [sl_1 z] at e
          exact e
        · have z : avN g c n (nI k) ≠ 0 := fun y => q (by rw [y]; decide)
          rw [sl_0 z] at e
          exact e
    have key : ∀ j k U, k + j = n → FrI DiX S U → AW l m_Mg_slips 200 0 0 (gI sh0 (fun x S1 => Sp l m_Md_slips 200 0 0 [.ref 114, .int (nI t), .int (nI n)] sh0 S1 (gI sh0 (fun y S2 => x = y ∧ Inv S2)))) 0 0 23 [.ref 0, .int (nI t), .int (nI n), .null, .int (nI (slN g c n k)), .int (nI k)] [] sh0 U := by
      intro j
      induction j with
      | zero =>
        intro k U hk F
        have hk : k = n := hk
        subst hk
        exact s_Mg_slips_23 rfl ⟨fun _ => e_Mg_give rfl (e_Md_slips rfl (dance_k2 hI F k2 ⟨fun _ => e_Md_slipOf rfl (ref U F k 0 _ (by omega) (FrI.refl _ _)), fun q => absurd (by decide) q⟩)), fun q => absurd (nI_le (Nat.le_refl _) (by omega)) q⟩
      | succ j ih =>
        intro k U hk F
        refine s_Mg_slips_23 rfl ⟨fun q => absurd q (nI_ge (by omega) (by omega)), fun _ => dance_mg (fl := nI k) hI N ht hn40 hc hV F (fun V FV => ?_)⟩
        rw [nI_1, nI_1]
        have e := ih (k + 1) V (by omega) FV
        refine ⟨fun q => ?_, fun q => ?_⟩
        · rw [sl_0 (fun z => q ((av0 n4 hn40).mpr z))] at e
          exact e
        · rw [sl_1 ((av0 n4 hn40).mp q)] at e
          exact e
    exact e_Mg_slips rfl (k1 _ ⟨fun _ => key n 0 S (by omega) (FrI.refl _ _), fun q => absurd rfl q⟩)
/-- the slip that is asked for, from a place on -/
def fnN (g : GM) (c : Nat → Nat) (n : Nat) (v : Int32) : Nat → Nat → Int32
  | _, 0 => -1
  | k, j + 1 => if avN g c n (nI k) = 0 ∧ nI (slN g c n k) = v then nI k else fnN g c n v (k + 1) j
theorem fn_1 {g : GM} {c : Nat → Nat} {n k j : Nat} {v : Int32} (h : avN g c n (nI k) = 0 ∧ nI (slN g c n k) = v) : fnN g c n v k (j + 1) = nI k := by
  conv => lhs; unfold fnN
  rw [if_pos h]
theorem fn_0 {g : GM} {c : Nat → Nat} {n k j : Nat} {v : Int32} (h : ¬ (avN g c n (nI k) = 0 ∧ nI (slN g c n k) = v)) : fnN g c n v k (j + 1) = fnN g c n v (k + 1) j := by
  conv => lhs; unfold fnN
  rw [if_neg h]
theorem ok_slipAt (l : Launch) : Ok_slipAt l 0 114 sh0 Inv := by
  intro S hI x y v
  obtain ⟨a, b, g, N⟩ := hI.now
  have n4 := N.2.2.2.1
  have gm : g.m ≤ 40 := n4.2.2.2.2.1
  by_cases c0 : 0 ≤ v
  · rcases dance_cases (l := l) hI N x y with ⟨e, e1, e2, k1, k2⟩ | ⟨t, n, c, ht, hn40, rfl, rfl, hc, hV, hM, k1, k2⟩
    · exact e_Mg_slipAt rfl ⟨fun _ => k1 _ ⟨fun q => absurd q e1, fun _ => e_Mg_fail rfl (e_Md_slipAt rfl ⟨fun _ => k2 e _ ⟨fun q => absurd q e2, fun _ => e_Md_refuse rfl ⟨rfl, hI.st rfl⟩⟩, fun q => absurd c0 q⟩)⟩, fun q => absurd c0 q⟩
    · have ref : ∀ U s, FrI DiX S U → ∀ (X : Int32 → aw_S → Prop), (∀ W, FrI CmX (aw_uI U 0 3 s) W → X (fnN g c n v 0 n) W) → ∀ j k V, k + j = n → fnN g c n v k j = fnN g c n v 0 n → FrI CmX (aw_uI U 0 3 s) V → AW l m_Md_slipOf 199 0 0 (gI sh0 X) 0 0 6 [.ref 114, .int (nI t), .int (nI n), .int v, .int (nI (slN g c n k)), .int (nI k)] [] sh0 V := by
        intro U s F X hX j
        induction j with
        | zero =>
          intro k V hk hf FV
          have hk : k = n := hk
          subst hk
          refine s_Md_slipOf_6 rfl ⟨fun _ => ⟨fun _ => ?_, fun q => absurd c0 q⟩, fun q => absurd (nI_le (Nat.le_refl _) (by omega)) q⟩
          have := hX V FV
          rw [← hf] at this
          exact this
        | succ j ih =>
          intro k V hk hf FV
          have sl := sl_le g c n k
          have al := av_le g c n (nI k)
          refine s_Md_slipOf_6 rfl ⟨fun q => absurd q (nI_ge (by omega) (by omega)), fun _ => dance_md (D := 193) (fl := nI k) hI N ht hn40 hc hM F FV (fun W FW => ?_)⟩
          rw [nI_1, nI_1]
          refine ⟨fun q => ?_, fun q => ?_⟩
          · have z : avN g c n (nI k) = 0 := by
              have := (nI_leI (b := 0) (by omega) (by omega)).mp q
              omega
            refine ⟨fun q2 => ?_, fun q2 => ?_⟩
            · have e := ih (k + 1) W (by omega) (by rw [← hf, fn_0 (fun w => q2 w.2)]) FW
              rw [sl_1 z] at e
              exact e
            · have := hX W FW
              rw [← hf, fn_1 ⟨z, q2⟩] at this
              exact this
          · have z : avN g c n (nI k) ≠ 0 := fun y => q (by rw [y]; decide)
            have e := ih (k + 1) W (by omega) (by rw [← hf, fn_0 (fun w => z w.1)]) FW
            rw [sl_0 z] at e
            exact e
      have md : ∀ U s, FrI DiX S U → ∀ (X : Int32 → aw_S → Prop), (∀ W, FrI CmX (aw_uI U 0 3 s) W → Sp l m_Md_orNone 199 0 0 [.ref 114, .int (fnN g c n v 0 n)] sh0 W (gI sh0 X)) → Sp l m_Md_slipAt 200 0 0 [.ref 114, .int (nI t), .int (nI n), .int v] sh0 (aw_uI U 0 3 s) (gI sh0 X) := fun U s F X hX => e_Md_slipAt rfl ⟨fun _ => dance_k2 hI F k2 ⟨fun _ => e_Md_slipOf rfl (ref U s F _ hX n 0 _ (by omega) rfl (FrI.refl _ _)), fun q => absurd (by decide) q⟩, fun q => absurd c0 q⟩
      have key : ∀ j k U, k + j = n → fnN g c n v k j = fnN g c n v 0 n → FrI DiX S U → AW l m_Mg_slipAt 200 0 0 (gI sh0 (fun x S1 => Sp l m_Md_slipAt 200 0 0 [.ref 114, .int (nI t), .int (nI n), .int v] sh0 S1 (gI sh0 (fun y S2 => x = y ∧ Inv S2)))) 0 0 34 [.ref 0, .int (nI t), .int (nI n), .int v, .null, .int (nI (slN g c n k)), .int (nI k)] [] sh0 U := by
        intro j
        induction j with
        | zero =>
          intro k U hk hf F
          have hk : k = n := hk
          subst hk
          refine s_Mg_slipAt_34 rfl ⟨fun _ => e_Mg_fail rfl (md U 6 F _ (fun W FW => ?_)), fun q => absurd (nI_le (Nat.le_refl _) (by omega)) q⟩
          rw [← hf]
          exact e_Md_orNone rfl ⟨fun q => absurd rfl q, fun _ => e_Md_refuse rfl ⟨rfl, hI.cmp N F FW⟩⟩
        | succ j ih =>
          intro k U hk hf F
          have sl := sl_le g c n k
          refine s_Mg_slipAt_34 rfl ⟨fun q => absurd q (nI_ge (by omega) (by omega)), fun _ => dance_mg (fl := nI k) hI N ht hn40 hc hV F (fun V FV => ?_)⟩
          rw [nI_1, nI_1]
          refine ⟨fun q => ?_, fun q => ?_⟩
          · have z : avN g c n (nI k) ≠ 0 := fun z => q ((av0 n4 hn40).mpr z)
            have e := ih (k + 1) V (by omega) (by rw [← hf, fn_0 (fun w => z w.1)]) FV
            rw [sl_0 z] at e
            exact e
          · have z : avN g c n (nI k) = 0 := (av0 n4 hn40).mp q
            refine ⟨fun q2 => ?_, fun q2 => e_Mg_give rfl (md V 0 FV _ (fun W FW => ?_))⟩
            · have e := ih (k + 1) V (by omega) (by rw [← hf, fn_0 (fun w => q2 w.2)]) FV
              rw [sl_1 z] at e
              exact e
            · rw [← hf, fn_1 ⟨z, q2⟩]
              exact e_Md_orNone rfl ⟨fun _ => e_Md_gives rfl ⟨rfl, hI.cmp N FV FW⟩, fun q3 => absurd q3 (nI_ne_m1 (by omega))⟩
      exact e_Mg_slipAt rfl ⟨fun _ => k1 _ ⟨fun _ => key n 0 S (by omega) rfl (FrI.refl _ _), fun q => absurd rfl q⟩, fun q => absurd c0 q⟩
  · exact e_Mg_slipAt rfl ⟨fun q => absurd q c0, fun _ => e_Mg_fail rfl (e_Md_slipAt rfl ⟨fun q => absurd q c0, fun _ => e_Md_refuse rfl ⟨rfl, hI.st rfl⟩⟩)⟩
