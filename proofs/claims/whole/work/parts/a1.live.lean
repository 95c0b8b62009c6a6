/-! live: the call -/
theorem Inv.r97 {S T : aw_S} (h : Inv S) (h1 : T.1 = S.1) (h2 : T.2.1 = S.2.1) (hr : ∀ k, k ≠ 97 → T.2.2 k = S.2.2 k) : Inv T := by
  obtain ⟨TI, TL, TR⟩ := T
  obtain ⟨SI, SL, SR⟩ := S
  have h1 : TI = SI := h1
  have h2 : TL = SL := h2
  subst h1 h2
  obtain ⟨i1, i2, i3, i4, i5, i6, ⟨a, b, r1, r2, r3⟩, i8, i9, i10⟩ := h
  exact ⟨i1, i2, i3, i4, i5, i6, ⟨a, b, (congrFun (hr 0 (by omega)) 6).trans r1, (congrFun (hr 0 (by omega)) 7).trans r2, r3⟩, i8, rf_97 i9 hr, i10⟩
theorem Inv.lvd {S T : aw_S} (h : Inv S) (hI : ∀ k j, ¬ (k = 98 ∨ k = 142 ∨ (k = 0 ∧ j = 14) ∨ (k = 114 ∧ j = 50)) → T.1 k j = S.1 k j) (h2 : T.2 = S.2) (e14 : T.1 0 14 = 1) (e50 : T.1 114 50 = 1) (e : ∀ j, j < 5 → T.1 98 j = T.1 142 j) : Inv T := by
  obtain ⟨i1, i2, i3, i4, i5, i6, i7, i8, i9, i10⟩ := h
  have c : ∀ k, k ≠ 98 → k ≠ 142 → k ≠ 0 → k ≠ 114 → T.1 k = S.1 k := fun k q1 q2 q3 q4 => funext fun j => hI k j (by omega)
  refine ⟨?_, by rw [h2]; exact i2, ?_, ⟨Or.inr e14, by rw [e50, e14], fun _ => e⟩, ?_, ?_, ?_, ?_, by rw [h2]; exact i9, by rw [h2]; exact i10⟩
  · rw [hI 0 3 (by omega), hI 114 2 (by omega)]; exact i1
  · rw [hI 0 4 (by omega), hI 114 16 (by omega), hI 0 5 (by omega), hI 114 17 (by omega)]; exact i3
  · obtain ⟨n, a1, a2, a3, a4⟩ := i5
    refine ⟨n, a1, ?_, ?_, fun j hj => ?_⟩
    · rw [hI 0 2 (by omega)]; exact a2
    · rw [hI 114 10 (by omega)]; exact a3
    · rw [c 10 (by omega) (by omega) (by omega) (by omega), c 120 (by omega) (by omega) (by omega) (by omega)]
      exact a4 j hj
  · obtain ⟨k, a1, a2, a3, a4⟩ := i6
    refine ⟨k, a1, by rw [hI 0 9 (by omega)]; exact a2, by rw [hI 114 51 (by omega)]; exact a3, fun i hi => ?_⟩
    rw [h2]
    exact (a4 i hi).fr (fun k q1 q2 => c k (by omega) (by omega) (by omega) (by omega)) (fun j _ => by rw [c 115 (by omega) (by omega) (by omega) (by omega)]) rfl (fun _ _ => rfl)
  · obtain ⟨a, b, r1, r2, r3, r4⟩ := i7
    refine ⟨a, b, by rw [h2]; exact r1, by rw [h2]; exact r2, r3, ?_⟩
    rw [h2]
    exact r4.fr (fun k q1 q2 => c k (by omega) (by omega) (by omega) (by omega)) (fun j _ => by rw [c 115 (by omega) (by omega) (by omega) (by omega)]) rfl (fun _ _ => rfl)
  · rw [h2]
    exact i8.fr (fun k q => c k (by omega) (by omega) (by omega) (by omega)) (fun _ _ => rfl)
theorem sp_begin {l : Launch} {d a c : Nat} {S : aw_S} {P : aw_S → Prop} {v : Int32} (h : P (bgS S a c v)) : Sp l m_Li_begin (d + 1) 0 0 [.ref 97, .ref a, .ref c, .int v] sh0 S (gV sh0 P) := e_Li_begin rfl h
/-- what is told of a life -/
def lvW (U : aw_S) (a : Nat) (c3 c4 : Int32) : aw_S := aw_uI (aw_uI (aw_uI (aw_uI (aw_uI (aw_uI U 98 0 (U.1 97 1)) 98 2 ((aw_uI U 98 0 (U.1 97 1)).1 a 3 - c3)) 98 3 ((aw_uI (aw_uI U 98 0 (U.1 97 1)) 98 2 ((aw_uI U 98 0 (U.1 97 1)).1 a 3 - c3)).1 a 4 - c4)) 98 1 ((aw_uI (aw_uI (aw_uI U 98 0 (U.1 97 1)) 98 2 ((aw_uI U 98 0 (U.1 97 1)).1 a 3 - c3)) 98 3 ((aw_uI (aw_uI U 98 0 (U.1 97 1)) 98 2 ((aw_uI U 98 0 (U.1 97 1)).1 a 3 - c3)).1 a 4 - c4)).1 98 2 + (aw_uI (aw_uI (aw_uI U 98 0 (U.1 97 1)) 98 2 ((aw_uI U 98 0 (U.1 97 1)).1 a 3 - c3)) 98 3 ((aw_uI (aw_uI U 98 0 (U.1 97 1)) 98 2 ((aw_uI U 98 0 (U.1 97 1)).1 a 3 - c3)).1 a 4 - c4)).1 98 3)) 98 4 ((aw_uI (aw_uI (aw_uI (aw_uI U 98 0 (U.1 97 1)) 98 2 ((aw_uI U 98 0 (U.1 97 1)).1 a 3 - c3)) 98 3 ((aw_uI (aw_uI U 98 0 (U.1 97 1)) 98 2 ((aw_uI U 98 0 (U.1 97 1)).1 a 3 - c3)).1 a 4 - c4)) 98 1 ((aw_uI (aw_uI (aw_uI U 98 0 (U.1 97 1)) 98 2 ((aw_uI U 98 0 (U.1 97 1)).1 a 3 - c3)) 98 3 ((aw_uI (aw_uI U 98 0 (U.1 97 1)) 98 2 ((aw_uI U 98 0 (U.1 97 1)).1 a 3 - c3)).1 a 4 - c4)).1 98 2 + (aw_uI (aw_uI (aw_uI U 98 0 (U.1 97 1)) 98 2 ((aw_uI U 98 0 (U.1 97 1)).1 a 3 - c3)) 98 3 ((aw_uI (aw_uI U 98 0 (U.1 97 1)) 98 2 ((aw_uI U 98 0 (U.1 97 1)).1 a 3 - c3)).1 a 4 - c4)).1 98 3)).1 97 2)) 0 14 1
theorem lvW_fr (U : aw_S) (a : Nat) (c3 c4 : Int32) : FrI (fun k j => k = 98 ∨ (k = 0 ∧ j = 14)) U (lvW U a c3 c4) := ((((((FrI.refl _ U).uI _ (Or.inl rfl)).uI _ (Or.inl rfl)).uI _ (Or.inl rfl)).uI _ (Or.inl rfl)).uI _ (Or.inl rfl)).uI _ (Or.inr ⟨rfl, rfl⟩)
theorem lvW_14 (U : aw_S) (a : Nat) (c3 c4 : Int32) : (lvW U a c3 c4).1 0 14 = 1 := by
  unfold lvW
  rw [uI_at, if_pos rfl, if_pos rfl]
theorem lvW_98 (U : aw_S) {a : Nat} (ha : a = 11 ∨ a = 26) (c3 c4 : Int32) : (lvW U a c3 c4).1 98 0 = U.1 97 1 ∧ (lvW U a c3 c4).1 98 1 = (U.1 a 3 - c3) + (U.1 a 4 - c4) ∧ (lvW U a c3 c4).1 98 2 = U.1 a 3 - c3 ∧ (lvW U a c3 c4).1 98 3 = U.1 a 4 - c4 ∧ (lvW U a c3 c4).1 98 4 = U.1 97 2 := by
  have h : a ≠ 98 := by omega
  unfold lvW
  simp [uI_at, h]
theorem i_cancel (x p : Int32) : x + p - x = p := by rw [Int32.add_comm, Int32.add_sub_cancel]
theorem ok_live (l : Launch) : Ok_live l 0 114 sh0 Inv := by
  intro S hI x
  obtain ⟨a, b, g, N⟩ := hI.now
  have hS := N.S hI.rf
  have hM := MdS.mk0 hI.rf
  have hab := N.ab
  obtain ⟨n1, n2, n3, n4, n5, n6, n7, n8, n9, n10⟩ := id N
  have hn : g.n ≤ 7 := n4.1
  have hF : FeS sh0 S.2.2 (a + 8) := FeS.mk0 hI.rf (by omega)
  have v : ∀ j, j < 5 → vp_in (nI j) 5 := fun j hj => vp_in_nI hj (by omega)
  have v5 : vp_in 5 3864 := vp_in_nI (n := 5) (by omega) (by omega)
  refine e_Mg_live rfl (sp_isWithin ?_)
  by_cases c : 0 ≤ x ∧ x ≤ 9999
  · rw [if_pos c]
    obtain ⟨seed, hs, rfl⟩ := le_ge (n := 9999) (by decide) c
    refine ⟨fun _ => ⟨a, n1, hS.sa, a + 8, hS.r11, hF.1, fun h0 => ⟨97, hI.rf.at (by decide), rfl, sp_begin ?_⟩, fun h0 => e_Mg_fail rfl ?_⟩, fun q => absurd q (by decide)⟩
    · obtain ⟨K, cd, pr, xa, xb, xc, Q, hq⟩ := feR_tb hn n10 h0
      refine ⟨97, (congrFun (bg_R S a (a + 8) _ (by omega)) 12).trans (hI.rf.at (by decide)), a, (congrFun (bg_R S a (a + 8) _ (by omega)) 6).trans n1, hS.sa, a + 8, (congrFun (bg_R S a (a + 8) _ (by omega)) 11).trans hS.r11, hF.1, rfl, ?_⟩
      rw [bg_I S a (a + 8) _ (show a + 8 ≠ 97 by omega), hq]
      refine sp_lifeC (d := 186) hI.rf hab (by omega) Q n4 n5 n6 (by omega) (fun S1 h1 => ?_)
      have B := bkF_B Q.1 Q.2.2.2 K 0 K (ls0 g seed) (WB.all Q.1) (ls0_B n4 n5 (by omega))
      generalize hls : bkF cd pr xa xb xc K 0 K (ls0 g seed) = ls at h1 B
      have rS : ∀ k j, k ≠ 97 → S1.2.2 k j = S.2.2 k j := fun k j hk => (congrFun (congrFun h1.1.R k) j).trans (congrFun (bg_R S a (a + 8) _ hk) j)
      have cS : ∀ k j, ¬ LcX a k j → S1.1 k j = S.1 k j := fun k j hk => (h1.1.1 k j hk).trans (congrFun (bg_I S a (a + 8) _ (fun z => hk (Or.inr (Or.inr z)))) j)
      refine ⟨98, (rS 0 13 (by omega)).trans (hI.rf.at (by decide)), 97, (rS 0 12 (by omega)).trans (hI.rf.at (by decide)), rfl, 5, rfl, v 0 (by omega), a, (rS 0 6 (by omega)).trans n1, hS.sa, v 2 (by omega), v 3 (by omega), v 2 (by omega), v 3 (by omega), v 1 (by omega), v 4 (by omega), ?_⟩
      rw [show (0 : Int32).toNatClampNeg = 0 from rfl, show (1 : Int32).toNatClampNeg = 1 from rfl, show (2 : Int32).toNatClampNeg = 2 from rfl, show (3 : Int32).toNatClampNeg = 3 from rfl, show (4 : Int32).toNatClampNeg = 4 from rfl]
      show Sp l m_Mg_give 199 0 0 [.ref 0, .int ((lvW S1 a (S.1 a 3) (S.1 a 4)).1 97 0)] sh0 (lvW S1 a (S.1 a 3) (S.1 a 4)) _
      refine e_Mg_give rfl ?_
      have wF := lvW_fr S1 a (S.1 a 3) (S.1 a 4)
      have w14 := lvW_14 S1 a (S.1 a 3) (S.1 a 4)
      have w98 := lvW_98 S1 hab (S.1 a 3) (S.1 a 4)
      generalize lvW S1 a (S.1 a 3) (S.1 a 4) = W at wF w14 w98
      have rV : ∀ k, k ≠ 97 → (aw_uI W 0 3 0).2.2 k = S.2.2 k := fun k hk => funext fun j => (congrFun (congrFun wF.R k) j).trans (rS k j hk)
      have hRV : RefsOk (aw_uI W 0 3 0).2.2 := rf_97 hI.rf rV
      have cV : ∀ k j, ¬ LcX a k j → ¬ (k = 98 ∨ k = 0) → (aw_uI W 0 3 0).1 k j = S.1 k j := fun k j q1 q2 => by
        rw [uI_ne _ _ _ (by omega), wF.1 k j (by omega)]
        exact cS k j q1
      have c115 : (aw_uI W 0 3 0).1 115 = S.1 115 := funext fun j => cV 115 j (by unfold LcX GX; omega) (by omega)
      have QV : tbR g.n K cd pr xa xb xc (aw_uI W 0 3 0).1 (a + 8) := Q.fr (fun k j q1 q2 => cV k j (by unfold LcX GX; omega) (by omega)) (fun j _ => by rw [c115])
      have h5 : (aw_uI W 0 3 0).1 115 (5 : Int32).toNatClampNeg = nI K := by
        rw [c115]
        exact Q.2.1
      have hK := Q.1.1
      refine e_Md_live rfl (sp_isFrom (d := 198) (y := 0) (z := 9999) (by decide) (by decide) (fun _ => ⟨fun _ => ⟨115, hRV.at (by decide), 3864, rfl, v5, fun _ => ?_, fun z => ?_⟩, fun q => absurd q (by decide)⟩) (fun z => absurd c z))
      · refine sp_lives (d := 190) hRV QV n4 n5 (n7.fr n4.1 n4.2.2.2.2.1 (fun j _ => by rw [c115])) (by omega) (fun lp T hT => ?_)
        rw [hls] at hT
        have hRT := hT.rf hRV
        have key : ∀ j i U, i + j = 5 → FrI (fun k _ => k = 142) T U → (∀ q, q < i → U.1 142 q = T.1 141 q) → AW l m_Md_live 200 0 0 (gI sh0 (fun y S2 => W.1 97 0 = y ∧ Inv S2)) 0 0 42 [.ref 114, .null, .int (nI i)] [] sh0 U := by
          intro j
          induction j with
          | zero =>
            intro i U hi F e
            have hi : i = 5 := hi
            subst hi
            refine s_Md_live_42 rfl ⟨fun _ => e_Md_gives rfl ⟨?_, ?_⟩, fun z => absurd (by decide) z⟩
            · rw [uI_at, if_pos rfl, if_neg (by decide), F.1 114 46 (by omega), hT.2.2.2.2.1, wF.1 97 0 (by omega)]
              exact h1.2.2.2.2.1
            · have chain : ∀ k j, ¬ (k = 142 ∨ (k = 114 ∧ (j = 50 ∨ j = 2)) ∨ LmX k j ∨ (k = 0 ∧ j = 3)) → (aw_uI (aw_uI U 114 50 1) 114 2 0).1 k j = W.1 k j := by
                intro k j q
                rw [uI_at]
                have e1 : (if k = 114 then (if j = 2 then 0 else (aw_uI U 114 50 1).1 114 j) else (aw_uI U 114 50 1).1 k j) = (aw_uI U 114 50 1).1 k j := by
                  by_cases z : k = 114
                  · rw [if_pos z, if_neg (by omega), z]
                  · rw [if_neg z]
                rw [e1, uI_at]
                have e2 : (if k = 114 then (if j = 50 then 1 else U.1 114 j) else U.1 k j) = U.1 k j := by
                  by_cases z : k = 114
                  · rw [if_pos z, if_neg (by omega), z]
                  · rw [if_neg z]
                rw [e2, F.1 k j (by omega), hT.1.1 k j (fun z => q (Or.inr (Or.inr (Or.inl z)))), uI_at]
                by_cases z : k = 0
                · rw [if_pos z, if_neg (by omega), z]
                · rw [if_neg z]
              have r2 : (aw_uI (aw_uI U 114 50 1) 114 2 0).2 = (aw_uI W 0 3 0).2 := F.2.trans hT.1.2
              generalize hE : aw_uI (aw_uI U 114 50 1) 114 2 0 = E at chain r2
              have E50 : E.1 114 50 = 1 := by rw [← hE, uI_at, if_pos rfl, if_neg (by decide), uI_at, if_pos rfl, if_pos rfl]
              have E2 : E.1 114 2 = 0 := by rw [← hE, uI_at, if_pos rfl, if_pos rfl]
              have E115 : E.1 115 = T.1 115 := by rw [← hE, uI_ne _ _ _ (by omega), uI_ne _ _ _ (by omega), F.cell (fun _ => by omega)]
              have E142 : ∀ j, j < 5 → E.1 142 j = T.1 141 j := fun j hj => by rw [← hE, uI_ne _ _ _ (by omega), uI_ne _ _ _ (by omega), e j hj]
              have E03 : E.1 0 3 = 0 := by rw [← hE, uI_ne _ _ _ (by omega), uI_ne _ _ _ (by omega), F.1 0 3 (by omega), hT.1.1 0 3 (by unfold LmX MXw MXd; omega), uI_at, if_pos rfl, if_pos rfl]
              have mid : Inv ((fun k j => if k = 98 ∨ k = 142 ∨ (k = 0 ∧ j = 14) ∨ (k = 114 ∧ j = 50) then S.1 k j else E.1 k j), S.2) := by
                have off : ∀ k j, ¬ (k = 98 ∨ k = 142 ∨ (k = 0 ∧ j = 14) ∨ (k = 114 ∧ j = 50)) → (if k = 98 ∨ k = 142 ∨ (k = 0 ∧ j = 14) ∨ (k = 114 ∧ j = 50) then S.1 k j else E.1 k j) = E.1 k j := fun k j q => if_neg q
                refine hI.upG (g' := ls.g) N (fun k j q => ?_) rfl B.1 B.2.2.1 B.2.1 ?_ ?_ ?_ ?_
                · show (if k = 98 ∨ k = 142 ∨ (k = 0 ∧ j = 14) ∨ (k = 114 ∧ j = 50) then S.1 k j else E.1 k j) = S.1 k j
                  by_cases z : k = 98 ∨ k = 142 ∨ (k = 0 ∧ j = 14) ∨ (k = 114 ∧ j = 50)
                  · rw [if_pos z]
                  · rw [if_neg z, chain k j (fun y => ?_), wF.1 k j (by omega), cS k j (fun y => ?_)]
                    · unfold YI at q
                      unfold LcX GX at y
                      omega
                    · unfold YI at q
                      unfold LmX MXw MXd at y
                      omega
                · refine h1.2.1.fr (fun k q1 q2 => funext fun j => ?_)
                  show (if k = 98 ∨ k = 142 ∨ (k = 0 ∧ j = 14) ∨ (k = 114 ∧ j = 50) then S.1 k j else E.1 k j) = S1.1 k j
                  rw [off k j (by omega), chain k j (by unfold LmX MXw MXd; omega), wF.1 k j (by omega)]
                · refine hT.2.1.fr B.1.1 B.1.2.2.2.2.1 (fun j _ => ?_)
                  show (if (115 : Nat) = 98 ∨ (115 : Nat) = 142 ∨ ((115 : Nat) = 0 ∧ 0 + j = 14) ∨ ((115 : Nat) = 114 ∧ 0 + j = 50) then S.1 115 (0 + j) else E.1 115 (0 + j)) = T.1 115 (0 + j)
                  rw [off 115 _ (by omega), E115]
                · show (if (115 : Nat) = 98 ∨ (115 : Nat) = 142 ∨ ((115 : Nat) = 0 ∧ 4 = 14) ∨ ((115 : Nat) = 114 ∧ 4 = 50) then S.1 115 4 else E.1 115 4) = (if a = 98 ∨ a = 142 ∨ (a = 0 ∧ 3 = 14) ∨ (a = 114 ∧ 3 = 50) then S.1 a 3 else E.1 a 3) + (if a = 98 ∨ a = 142 ∨ (a = 0 ∧ 4 = 14) ∨ (a = 114 ∧ 4 = 50) then S.1 a 4 else E.1 a 4)
                  rw [off 115 4 (by omega), off a 3 (by omega), off a 4 (by omega), E115, hT.2.2.1, c115, n8, chain a 3 (by unfold LmX MXw MXd; omega), chain a 4 (by unfold LmX MXw MXd; omega), wF.1 a 3 (by omega), wF.1 a 4 (by omega), h1.2.2.1.1, h1.2.2.1.2, bg_I S a (a + 8) _ (show a ≠ 97 by omega)]
                  ac_rfl
                · show (if (0 : Nat) = 98 ∨ (0 : Nat) = 142 ∨ ((0 : Nat) = 0 ∧ 3 = 14) ∨ ((0 : Nat) = 114 ∧ 3 = 50) then S.1 0 3 else E.1 0 3) = (if (114 : Nat) = 98 ∨ (114 : Nat) = 142 ∨ ((114 : Nat) = 0 ∧ 2 = 14) ∨ ((114 : Nat) = 114 ∧ 2 = 50) then S.1 114 2 else E.1 114 2)
                  rw [off 0 3 (by omega), off 114 2 (by omega), E03, E2]
              have mid2 : Inv (E.1, S.2) := by
                refine mid.lvd (fun k j q => (if_neg q).symm) rfl ?_ E50 (fun j hj => ?_)
                · show E.1 0 14 = 1
                  rw [chain 0 14 (by unfold LmX MXw MXd; omega)]
                  exact w14
                · show E.1 98 j = E.1 142 j
                  rw [E142 j hj, chain 98 j (by unfold LmX MXw MXd; omega)]
                  obtain ⟨q0, q1, q2, q3, q4⟩ := hT.2.2.2.2.2.1
                  obtain ⟨z0, z1, z2, z3, z4⟩ := w98
                  have e3 : S1.1 a 3 - S.1 a 3 = nI ls.ci := by rw [h1.2.2.1.1, bg_I S a (a + 8) _ (show a ≠ 97 by omega)]; exact i_cancel _ _
                  have e4 : S1.1 a 4 - S.1 a 4 = nI ls.co := by rw [h1.2.2.1.2, bg_I S a (a + 8) _ (show a ≠ 97 by omega)]; exact i_cancel _ _
                  have hj5 : j = 0 ∨ j = 1 ∨ j = 2 ∨ j = 3 ∨ j = 4 := by omega
                  rcases hj5 with rfl | rfl | rfl | rfl | rfl
                  · rw [z0, q0]; exact h1.2.2.2.2.2.1
                  · rw [z1, q1, e3, e4, nI_add]
                  · rw [z2, q2, e3]
                  · rw [z3, q3, e4]
                  · rw [z4, q4]; exact h1.2.2.2.2.2.2.2
              refine mid2.r97 rfl ?_ (fun k hk => ?_)
              · rw [r2]
                show W.2.1 = S.2.1
                rw [wF.L, h1.1.L]
                rfl
              · rw [r2]
                exact rV k hk
          | succ j ih =>
            intro i U hi F e
            refine s_Md_live_42 rfl ⟨fun z => absurd ((nI_leI (a := 5) (by omega) (by omega)).mp z) (by omega), fun _ => ⟨142, by rw [F.R]; exact hRT.at (by decide), 141, by rw [F.R]; exact hRT.at (by decide), 5, rfl, v i (by omega), 5, rfl, v i (by omega), ?_⟩⟩
            rw [nI_1, nI_clamp (by omega), F.1 141 i (by omega)]
            refine ih (i + 1) _ (by omega) (F.uI _ rfl) (fun q hq => ?_)
            rw [uI_at, if_pos rfl]
            by_cases z : q = i
            · rw [if_pos z, z]
            · rw [if_neg z]; exact e q (by omega)
        exact key 5 0 T (by omega) (FrI.refl _ _) (fun q hq => absurd hq (Nat.not_lt_zero q))
      · rw [h5] at z
        exact absurd z (nI_ne_m1 (by omega))
    · have h6 : S.1 115 5 = -1 := by
        rcases n10 with ⟨-, -, z⟩ | ⟨z, -⟩
        · exact z
        · rw [h0] at z
          exact absurd z (by decide)
      refine e_Md_live rfl (sp_isFrom (d := 198) (y := 0) (z := 9999) (by decide) (by decide) (fun _ => ⟨fun _ => ⟨115, hM.2.1, 3864, rfl, v5, fun z => absurd ?_ z, fun _ => e_Md_refuse rfl ⟨rfl, hI.st rfl⟩⟩, fun q => absurd q (by decide)⟩) (fun z => absurd c z))
      rw [uI_ne _ _ _ (by omega)]
      exact h6
  · rw [if_neg c]
    refine ⟨fun q => absurd rfl q, fun _ => e_Mg_fail rfl (e_Md_live rfl (sp_isFrom (d := 198) (y := 0) (z := 9999) (by decide) (by decide) (fun z => absurd z c) (fun _ => ⟨fun q => absurd rfl q, fun _ => e_Md_refuse rfl ⟨rfl, hI.st rfl⟩⟩)))⟩
