/-! mean: the call -/
def mnSu (h : Nat → Nat) : Nat → Nat
  | 0 => 0
  | k + 1 => mnSu h k + h k
/-- what the class's lives leave -/
def MnC (b : Nat) (S U : aw_S) : Prop := (∀ k j, ¬ ((b ≤ k ∧ k < b + 15) ∨ k = 97) → U.1 k j = S.1 k j) ∧ (∀ k j, k ≠ b + 1 → U.2.1 k j = S.2.1 k j) ∧ (∀ k, k ≠ 97 → U.2.2 k = S.2.2 k)
/-- what the reference's lives leave -/
def MnM (V T : aw_S) : Prop := (∀ k j, ¬ (LmX k j ∨ (k = 115 ∧ 2760 ≤ j ∧ j < 2944)) → T.1 k j = V.1 k j) ∧ T.2 = V.2 ∧ (∀ j, j < 184 → T.1 115 j = V.1 115 j) ∧ (∀ j, j < 184 → T.1 115 (2760 + j) = V.1 115 j)
section MEAN
variable {l : Launch} {K : Nat} {cd pr xa xb xc : Nat → Nat} {S : aw_S} {g : GM} {a b seed many : Nat}
theorem mean_c {P : Int32 → aw_S → Prop} {h : Nat → Nat} (hI : Inv S) (N : NowI S a b g) (Q : tbR g.n K cd pr xa xb xc S.1 (a + 8)) (hq : S.1 (a + 8) 1 = nI (ncN cd K)) (hh : ∀ k, h k = (bkF cd pr xa xb xc K 0 K (ls0 g (seed + k))).g.m) (h40 : ∀ k, k < many → h k ≤ 40) (hs : seed + many ≤ 10000) (hm : many ≤ 20) (fin : ∀ U, MnC b S U → AW l m_Mg_mean 200 0 0 (gI sh0 P) 0 0 63 [.ref 0, .int (nI seed), .int (nI many), .int (nI (mnSu h many)), .int (nI many)] [] sh0 U) : ∀ j i U, i + j = many → MnC b S U → AW l m_Mg_mean 200 0 0 (gI sh0 P) 0 0 63 [.ref 0, .int (nI seed), .int (nI many), .int (nI (mnSu h i)), .int (nI i)] [] sh0 U := by
  have hab := N.ab
  obtain ⟨n1, n2, n3, n4, n5, n6, n7, n8, n9, n10⟩ := id N
  intro j
  induction j with
  | zero =>
    intro i U hi M
    have hi : i = many := hi
    subst hi
    exact fin U M
  | succ j ih =>
    intro i U hi M
    obtain ⟨m1, m2, m3⟩ := id M
    have hRU : RefsOk U.2.2 := rf_97 hI.rf m3
    have hSa : GrS sh0 U.2.2 a := GrS.mk0 hRU (by omega)
    have hSb : GrS sh0 U.2.2 b := GrS.mk0 hRU (by omega)
    have hFa : FeS sh0 U.2.2 (a + 8) := FeS.mk0 hRU (by omega)
    have r6 : U.2.2 0 6 = some a := (congrFun (m3 0 (by omega)) 6).trans n1
    have r7 : U.2.2 0 7 = some b := (congrFun (m3 0 (by omega)) 7).trans n2
    have ca : ∀ k, a ≤ k → k < a + 15 → U.1 k = S.1 k := fun k q1 q2 => funext fun j => m1 k j (by omega)
    refine s_Mg_mean_63 rfl ⟨fun z => absurd ((nI_leI (by omega) (by omega)).mp z) (by omega), fun _ => ⟨b, r7, a, r6, hSb.sa, sp_Gr_copyFrom (d := 197) (g := g) hSb hSa (by omega) n4 (n6.fr (fun k q1 q2 => ca k q1 (by omega))) (fun U1 C G => ?_)⟩⟩
    obtain ⟨c1, c2, c3, c4, c5⟩ := C
    have hR1 : RefsOk U1.2.2 := by rw [c3]; exact hRU
    refine ⟨97, hR1.at (by decide), b, by rw [c3]; exact r7, a, by rw [c3]; exact r6, hSa.sa, a + 8, by rw [c3]; exact hSa.r11, rfl, ?_⟩
    rw [nI_add]
    refine sp_begin ?_
    have bR : ∀ k j, k ≠ 97 → (bgS U1 b (a + 8) (nI (seed + i))).2.2 k j = U.2.2 k j := fun k j hk => (congrFun (bg_R U1 b (a + 8) _ hk) j).trans (by rw [c3])
    refine ⟨97, (bR 0 12 (by omega)).trans (hRU.at (by decide)), a, (bR 0 6 (by omega)).trans r6, hSa.sa, a + 8, (bR a 11 (by omega)).trans hSa.r11, hFa.1, rfl, ?_⟩
    have cf : ∀ k j, a ≤ k → k < a + 15 → U1.1 k j = S.1 k j := fun k j q1 q2 => (c1 k j (by omega)).trans (congrFun (ca k q1 q2) j)
    have c115 : ∀ j, U1.1 115 j = S.1 115 j := fun j => (c1 115 j (by omega)).trans (m1 115 j (by omega))
    rw [bg_I U1 b (a + 8) _ (show a + 8 ≠ 97 by omega), cf (a + 8) 1 (by omega) (by omega), hq]
    have Q1 : tbR g.n K cd pr xa xb xc U1.1 (a + 8) := Q.fr (fun k j q1 q2 => cf k j (by omega) (by omega)) (fun j _ => c115 j)
    refine sp_lifeC (d := 186) (seed := seed + i) hR1 (by omega) (by omega) Q1 n4 n5 G (by omega) (fun U2 h2 => ?_)
    have r2 : ∀ k j, k ≠ 97 → U2.2.2 k j = U.2.2 k j := fun k j hk => (congrFun (congrFun h2.1.R k) j).trans (bR k j hk)
    refine ⟨b, (r2 0 7 (by omega)).trans r7, hSb.sa, b + 6, (r2 b 10 (by omega)).trans hSb.r10, hSb.s6, ?_⟩
    rw [h2.2.1.2.2.2.1, nI_add, nI_1, ← hh i]
    refine ih (i + 1) U2 (by omega) ⟨fun k j q => ?_, fun k j q => ?_, fun k q => funext fun j => ?_⟩
    · rw [h2.1.1 k j (by unfold LcX GX; omega), bg_I U1 b (a + 8) _ (by omega), c1 k j (by omega)]
      exact m1 k j q
    · rw [h2.1.L]
      show U1.2.1 k j = _
      rw [c2 k j q]
      exact m2 k j q
    · rw [r2 k j q, m3 k q]
theorem mean_m {P : Int32 → aw_S → Prop} {h : Nat → Nat} {V : aw_S} (hR : RefsOk V.2.2) (hb : bdG g) (hr : redN g.n g.f g.m) (hM : MdG V.1 0 g) (Q : tbR g.n K cd pr xa xb xc V.1 (a + 8)) (hh : ∀ k, h k = (bkF cd pr xa xb xc K 0 K (ls0 g (seed + k))).g.m) (h40 : ∀ k, k < many → h k ≤ 40) (hs : seed + many ≤ 10000) (hm : many ≤ 20) (ha : a = 11 ∨ a = 26) (fin : ∀ T, MnM V T → AW l m_Md_mean 200 0 0 (gI sh0 P) 0 0 70 [.ref 114, .int (nI seed), .int (nI many), .long (lN (mnSu h many)), .null, .int (nI many)] [] sh0 T) : ∀ j i T, i + j = many → MnM V T → AW l m_Md_mean 200 0 0 (gI sh0 P) 0 0 70 [.ref 114, .int (nI seed), .int (nI many), .long (lN (mnSu h i)), .null, .int (nI i)] [] sh0 T := by
  intro j
  induction j with
  | zero =>
    intro i T hi M
    have hi : i = many := hi
    subst hi
    exact fin T M
  | succ j ih =>
    intro i T hi M
    obtain ⟨m1, m2, m3, m4⟩ := id M
    have hRT : RefsOk T.2.2 := by rw [m2]; exact hR
    have QT : tbR g.n K cd pr xa xb xc T.1 (a + 8) := by
      obtain ⟨W, q5, qe, E⟩ := Q
      have W1 := W.1
      have c : ∀ j, 184 ≤ j → j < 544 → T.1 115 j = V.1 115 j := fun j q1 q2 => m1 115 j (by unfold LmX MXw MXd; omega)
      have d : ∀ k j, a + 8 + 1 ≤ k → k ≤ a + 8 + 5 → T.1 k j = V.1 k j := fun k j q1 q2 => m1 k j (by unfold LmX MXw MXd; omega)
      refine ⟨W, (m3 5 (by omega)).trans q5, fun e he => ?_, fun e he z => ?_⟩
      · rw [c _ (by omega) (by omega), c _ (by omega) (by omega)]
        exact qe e he
      · rw [d _ _ (by omega) (by omega), d _ _ (by omega) (by omega), d _ _ (by omega) (by omega), d _ _ (by omega) (by omega), d _ _ (by omega) (by omega), c _ (by omega) (by omega), c _ (by omega) (by omega), c _ (by omega) (by omega), c _ (by omega) (by omega)]
        exact E e he z
    refine s_Md_mean_70 rfl ⟨fun z => absurd ((nI_leI (by omega) (by omega)).mp z) (by omega), fun _ => ?_⟩
    rw [nI_add]
    refine sp_lives (d := 190) (seed := seed + i) hRT QT hb hr (hM.fr hb.1 hb.2.2.2.2.1 (fun j hj => by rw [Nat.zero_add]; exact m3 j hj)) (by omega) (fun lp T1 h1 => ?_)
    have hR1 := h1.rf hRT
    refine ⟨115, hR1.at (by decide), 3864, rfl, vp_in_nI (n := 3) (by omega) (by omega), ?_⟩
    have e3 : T1.1 115 (3 : Int32).toNatClampNeg = nI (h i) := by
      rw [hh i]
      exact h1.2.1.2.2.2.1
    have h4 := h40 i (by omega)
    rw [e3, nI_l (by omega), lN_add]
    refine sp_Md_restores (s := 2760) (d := 198) hR1 (by omega) (by omega) (fun T2 F2 V2 => ?_)
    rw [nI_1]
    refine ih (i + 1) T2 (by omega) ⟨fun k j q => ?_, ?_, fun j hj => ?_, fun j hj => ?_⟩
    · by_cases z : k = 115 ∧ j < 184
      · rw [z.1, V2 j z.2, h1.1.1 115 (2760 + j) (by unfold LmX MXw MXd; omega)]
        exact m4 j z.2
      · rw [F2.1 k j z, h1.1.1 k j (fun y => q (Or.inl y))]
        exact m1 k j q
    · rw [F2.2, h1.1.2]
      exact m2
    · rw [V2 j hj, h1.1.1 115 (2760 + j) (by unfold LmX MXw MXd; omega)]
      exact m4 j hj
    · rw [F2.1 115 (2760 + j) (by omega), h1.1.1 115 (2760 + j) (by unfold LmX MXw MXd; omega)]
      exact m4 j hj
end MEAN
theorem ok_mean (l : Launch) : Ok_mean l 0 114 sh0 Inv := by
  intro S hI x y
  obtain ⟨a, b, g, N⟩ := hI.now
  have hS := N.S hI.rf
  have hM := MdS.mk0 hI.rf
  have hab := N.ab
  obtain ⟨n1, n2, n3, n4, n5, n6, n7, n8, n9, n10⟩ := id N
  have hn : g.n ≤ 7 := n4.1
  have hF : FeS sh0 S.2.2 (a + 8) := FeS.mk0 hI.rf (by omega)
  have v5 : vp_in 5 3864 := vp_in_nI (n := 5) (by omega) (by omega)
  refine e_Mg_mean rfl (sp_isWithin ?_)
  by_cases c1 : 0 ≤ x ∧ x ≤ 9999
  · rw [if_pos c1]
    refine ⟨fun q => absurd q (by decide), fun _ => sp_isWithin ?_⟩
    by_cases c2 : 1 ≤ y ∧ y ≤ 20
    · rw [if_pos c2]
      have ref : ∀ {T : aw_S} {X : Int32 → aw_S → Prop}, (((x + y) - (1 : Int32)) ≤ 9999 → ∃ r14, T.2.2 114 0 = some r14 ∧ ∃ n16, sh0[r14]? = some (3, n16) ∧ vp_in 5 n16 ∧ ((¬ (T.1 r14 (5 : Int32).toNatClampNeg) = (-1) → Sp l m_Md_keeps 199 0 0 [.ref 114, .int 2760] sh0 T (gV sh0 (fun S19 => AW l m_Md_mean 200 0 0 (gI sh0 X) 0 0 70 [.ref 114, .int x, .int y, .long 0, .null, .int 0] [] sh0 S19))) ∧ ((T.1 r14 (5 : Int32).toNatClampNeg) = (-1) → Sp l m_Md_is 199 0 0 [.ref 114, .int 6] sh0 T (gI sh0 (fun x21 S20 => ((x21 = 0 ∨ x21 = 1) ∧ X x21 S20)))))) ∧ (¬ ((x + y) - (1 : Int32)) ≤ 9999 → Sp l m_Md_is 199 0 0 [.ref 114, .int 1] sh0 T (gI sh0 (fun x24 S23 => ((x24 = 0 ∨ x24 = 1) ∧ X x24 S23)))) → Sp l m_Md_mean 200 0 0 [.ref 114, .int x, .int y] sh0 T (gI sh0 X) := fun h => e_Md_mean rfl (sp_isFrom (d := 198) (y := 0) (z := 9999) (by decide) (by decide) (fun _ => ⟨fun q => absurd q (by decide), fun _ => sp_isFrom (d := 198) (y := 1) (z := 20) (by decide) (by decide) (fun _ => ⟨fun q => absurd q (by decide), fun _ => h⟩) (fun z => absurd c2 z)⟩) (fun z => absurd c1 z))
      refine ⟨fun q => absurd q (by decide), fun _ => ⟨fun c3 => ⟨a, n1, hS.sa, a + 8, hS.r11, hF.1, fun h0 => ?_, fun h0 => e_Mg_refuse rfl ⟨Or.inl rfl, ?_⟩⟩, fun c3 => e_Mg_refuse rfl ⟨Or.inl rfl, ref ⟨fun z => absurd z c3, fun _ => sp_is1 (by decide) ⟨Or.inl rfl, rfl, hI.st rfl⟩⟩⟩⟩⟩
      · obtain ⟨K, cd, pr, xa, xb, xc, Q, hq⟩ := feR_tb hn n10 h0
        obtain ⟨seed, hs, rfl⟩ := le_ge (n := 9999) (by decide) c1
        obtain ⟨many, hm, e⟩ := le_ge (x := y) (M := 20) (n := 20) (by decide) ⟨Int32.le_trans (by decide) c2.1, c2.2⟩
        subst e
        have m1 : 1 ≤ many := (nI_leI (a := 1) (by omega) (by omega)).mp c2.1
        have hsm : seed + many ≤ 10000 := by
          have c3 := c3
          rw [nI_add, show seed + many = seed + many - 1 + 1 by omega, nI_pred] at c3
          have := (nI_leI (b := 9999) (by omega) (by omega)).mp c3
          omega
        have h40 : ∀ k, k < many → (bkF cd pr xa xb xc K 0 K (ls0 g (seed + k))).g.m ≤ 40 := fun k hk => (bkF_B Q.1 Q.2.2.2 K 0 K (ls0 g (seed + k)) (WB.all Q.1) (ls0_B n4 n5 (by omega))).1.2.2.2.2.1
        have hsum : ∀ k, k ≤ many → mnSu (fun k => (bkF cd pr xa xb xc K 0 K (ls0 g (seed + k))).g.m) k ≤ 40 * k := by
          intro k
          induction k with
          | zero => intro _; exact Nat.le_refl _
          | succ k ih =>
            intro hk
            have h1 := ih (by omega)
            have h2 := h40 k (by omega)
            show mnSu _ k + (bkF cd pr xa xb xc K 0 K (ls0 g (seed + k))).g.m ≤ _
            omega
        have hsm2 := hsum many (Nat.le_refl _)
        refine mean_c (h := fun k => (bkF cd pr xa xb xc K 0 K (ls0 g (seed + k))).g.m) hI N Q hq (fun _ => rfl) h40 hsm hm (fun U M => ?_) many 0 S (by omega) ⟨fun _ _ _ => rfl, fun _ _ _ => rfl, fun _ _ => rfl⟩
        obtain ⟨u1, u2, u3⟩ := M
        have hRU : RefsOk U.2.2 := rf_97 hI.rf u3
        refine s_Mg_mean_63 rfl ⟨fun _ => ⟨111, hRU.at (by decide), rfl, ?_⟩, fun z => absurd (Int32.le_refl _) z⟩
        generalize hsu : mnSu (fun k => (bkF cd pr xa xb xc K 0 K (ls0 g (seed + k))).g.m) many = su at hsm2
        rw [nI_l (by omega), nI_l (by omega)]
        refine sp_Ch_set (d := 197) rfl (by omega) (by omega) (by omega) (e_Mg_grant rfl ⟨Or.inr rfl, ?_⟩)
        have V1 : ∀ k j, k ≠ 0 → (aw_uI (aw_uL (aw_uL U 111 0 (lN (su / Nat.gcd su many))) 111 1 (lN (many / Nat.gcd su many))) 0 3 0).1 k j = U.1 k j := fun k j hk => by rw [uI_ne _ _ _ hk, uL_I, uL_I]
        have V0 : ∀ j, j ≠ 3 → (aw_uI (aw_uL (aw_uL U 111 0 (lN (su / Nat.gcd su many))) 111 1 (lN (many / Nat.gcd su many))) 0 3 0).1 0 j = U.1 0 j := fun j hj => by rw [uI_at, if_pos rfl, if_neg hj, uL_I, uL_I]
        have V3 : (aw_uI (aw_uL (aw_uL U 111 0 (lN (su / Nat.gcd su many))) 111 1 (lN (many / Nat.gcd su many))) 0 3 0).1 0 3 = 0 := by rw [uI_at, if_pos rfl, if_pos rfl]
        have VL : ∀ k j, k ≠ 111 → (aw_uI (aw_uL (aw_uL U 111 0 (lN (su / Nat.gcd su many))) 111 1 (lN (many / Nat.gcd su many))) 0 3 0).2.1 k j = U.2.1 k j := fun k j hk => by rw [uI_L, uL_ne _ _ _ hk, uL_ne _ _ _ hk]
        have VL0 : (aw_uI (aw_uL (aw_uL U 111 0 (lN (su / Nat.gcd su many))) 111 1 (lN (many / Nat.gcd su many))) 0 3 0).2.1 111 0 = lN (su / Nat.gcd su many) := by simp [uI_L, uL_at]
        have VL1 : (aw_uI (aw_uL (aw_uL U 111 0 (lN (su / Nat.gcd su many))) 111 1 (lN (many / Nat.gcd su many))) 0 3 0).2.1 111 1 = lN (many / Nat.gcd su many) := by simp [uI_L, uL_at]
        have VR : (aw_uI (aw_uL (aw_uL U 111 0 (lN (su / Nat.gcd su many))) 111 1 (lN (many / Nat.gcd su many))) 0 3 0).2.2 = U.2.2 := rfl
        generalize (aw_uI (aw_uL (aw_uL U 111 0 (lN (su / Nat.gcd su many))) 111 1 (lN (many / Nat.gcd su many))) 0 3 0) = V at V1 V0 V3 VL VL0 VL1 VR
        have hRV : RefsOk V.2.2 := by rw [VR]; exact hRU
        have cV : ∀ k j, k ≠ 0 → ¬ ((b ≤ k ∧ k < b + 15) ∨ k = 97) → V.1 k j = S.1 k j := fun k j q1 q2 => (V1 k j q1).trans (u1 k j q2)
        have c115 : V.1 115 = S.1 115 := funext fun j => cV 115 j (by omega) (by omega)
        have h5 : V.1 115 (5 : Int32).toNatClampNeg = nI K := by
          rw [c115]
          exact Q.2.1
        have hK := Q.1.1
        have hMV : MdG V.1 0 g := n7.fr n4.1 n4.2.2.2.2.1 (fun j _ => by rw [c115])
        refine ref ⟨fun _ => ⟨115, hRV.at (by decide), 3864, rfl, v5, fun _ => ?_, fun z => ?_⟩, fun z => absurd c3 z⟩
        · refine sp_Md_keeps (s := 2760) (d := 198) hRV (by omega) (by omega) (fun T0 F0 E0 => ?_)
          have QV : tbR g.n K cd pr xa xb xc V.1 (a + 8) := Q.fr (fun k j q1 q2 => cV k j (by omega) (by omega)) (fun j _ => by rw [c115])
          refine mean_m (V := V) (h := fun k => (bkF cd pr xa xb xc K 0 K (ls0 g (seed + k))).g.m) hRV n4 n5 hMV QV (fun _ => rfl) h40 hsm hm hab (fun T M => ?_) many 0 T0 (by omega) ⟨fun k j q => F0.1 k j (fun z => q (Or.inr ⟨z.1, by omega, by omega⟩)), F0.2, fun j hj => F0.1 115 j (by omega), E0⟩
          obtain ⟨t1, t2, t3, t4⟩ := M
          refine s_Md_mean_70 rfl ⟨fun _ => ?_, fun z => absurd (Int32.le_refl _) z⟩
          rw [hsu, nI_l (by omega)]
          refine sp_tellsBy (d := 197) (by omega) (by omega) (by omega) ⟨Or.inr rfl, rfl, ?_⟩
          have fin : Inv ((aw_uI (aw_uL (aw_uL T 114 3 (lN (su / Nat.gcd su many))) 114 4 (lN (many / Nat.gcd su many))) 114 2 0).1, (aw_uI (aw_uL (aw_uL T 114 3 (lN (su / Nat.gcd su many))) 114 4 (lN (many / Nat.gcd su many))) 114 2 0).2.1, S.2.2) := by
            refine hI.frc N (fun k j q => ?_) (fun k j q => ?_) rfl ?_ ?_
            · show (aw_uI (aw_uL (aw_uL T 114 3 (lN (su / Nat.gcd su many))) 114 4 (lN (many / Nat.gcd su many))) 114 2 0).1 k j = S.1 k j
              rw [uI_at, uL_I, uL_I]
              have eT : T.1 k j = V.1 k j := by
                by_cases z : k = 115 ∧ j < 184
                · rw [z.1]; exact t3 j z.2
                · exact t1 k j (by unfold LmX MXw MXd; omega)
              have eV : V.1 k j = S.1 k j := by
                by_cases z : k = 0
                · rw [z, V0 j (by omega), u1 0 j (by omega)]
                · exact cV k j z (by omega)
              by_cases z : k = 114
              · rw [if_pos z, if_neg (by omega), ← z, eT, eV]
              · rw [if_neg z, eT, eV]
            · show (aw_uI (aw_uL (aw_uL T 114 3 (lN (su / Nat.gcd su many))) 114 4 (lN (many / Nat.gcd su many))) 114 2 0).2.1 k j = S.2.1 k j
              rw [uI_L, uL_ne _ _ _ (by omega), uL_ne _ _ _ (by omega), t2, VL k j (by omega)]
              exact u2 k j (by omega)
            · show (aw_uI (aw_uL (aw_uL T 114 3 (lN (su / Nat.gcd su many))) 114 4 (lN (many / Nat.gcd su many))) 114 2 0).1 0 3 = (aw_uI (aw_uL (aw_uL T 114 3 (lN (su / Nat.gcd su many))) 114 4 (lN (many / Nat.gcd su many))) 114 2 0).1 114 2
              rw [uI_ne _ _ _ (by omega), uL_I, uL_I, uI_at, if_pos rfl, if_pos rfl, t1 0 3 (by unfold LmX MXw MXd; omega)]
              exact V3
            · show (aw_uI (aw_uL (aw_uL T 114 3 (lN (su / Nat.gcd su many))) 114 4 (lN (many / Nat.gcd su many))) 114 2 0).2.1 111 0 = (aw_uI (aw_uL (aw_uL T 114 3 (lN (su / Nat.gcd su many))) 114 4 (lN (many / Nat.gcd su many))) 114 2 0).2.1 114 3 ∧ (aw_uI (aw_uL (aw_uL T 114 3 (lN (su / Nat.gcd su many))) 114 4 (lN (many / Nat.gcd su many))) 114 2 0).2.1 111 1 = (aw_uI (aw_uL (aw_uL T 114 3 (lN (su / Nat.gcd su many))) 114 4 (lN (many / Nat.gcd su many))) 114 2 0).2.1 114 4
              simp only [uI_L, uL_at]
              rw [t2]
              simp [VL0, VL1]
          exact fin.r97 rfl rfl (fun k hk => by
            show T.2.2 k = S.2.2 k
            rw [t2, VR]
            exact u3 k hk)
        · rw [h5] at z
          exact absurd z (nI_ne_m1 (by omega))
      · have h6 : S.1 115 5 = -1 := by
          rcases n10 with ⟨-, -, z⟩ | ⟨z, -⟩
          · exact z
          · rw [h0] at z
            exact absurd z (by decide)
        refine ref ⟨fun _ => ⟨115, hM.2.1, 3864, rfl, v5, fun z => absurd ?_ z, fun _ => sp_is1 (by decide) ⟨Or.inl rfl, rfl, hI.st rfl⟩⟩, fun z => absurd c3 z⟩
        rw [uI_ne _ _ _ (by omega)]
        exact h6
    · rw [if_neg c2]
      exact ⟨fun _ => e_Mg_refuse rfl ⟨Or.inl rfl, e_Md_mean rfl (sp_isFrom (d := 198) (y := 0) (z := 9999) (by decide) (by decide) (fun _ => ⟨fun q => absurd q (by decide), fun _ => sp_isFrom (d := 198) (y := 1) (z := 20) (by decide) (by decide) (fun z => absurd z c2) (fun _ => ⟨fun _ => sp_is1 (by decide) ⟨Or.inl rfl, rfl, hI.st rfl⟩, fun q => absurd rfl q⟩)⟩) (fun z => absurd c1 z))⟩, fun q => absurd rfl q⟩
  · rw [if_neg c1]
    exact ⟨fun _ => e_Mg_refuse rfl ⟨Or.inl rfl, e_Md_mean rfl (sp_isFrom (d := 198) (y := 0) (z := 9999) (by decide) (by decide) (fun z => absurd z c1) (fun _ => ⟨fun _ => sp_is1 (by decide) ⟨Or.inl rfl, rfl, hI.st rfl⟩, fun q => absurd rfl q⟩))⟩, fun q => absurd rfl q⟩
