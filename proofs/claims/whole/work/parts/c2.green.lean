/-! green: the call, class and reference together -/
theorem plE_L (A : Nat) (S : aw_S) (slot : Nat) : (pl_E A S slot).2.1 = S.2.1 := by
  unfold pl_E
  rw [uI_L, uI_L, uI_L, plZ_L]
theorem plE_R (A : Nat) (S : aw_S) (slot : Nat) : (pl_E A S slot).2.2 = S.2.2 := by
  unfold pl_E
  rw [uI_R, uI_R, uI_R, pl_R]
/-- what the reference's green leaves: with a fault, and without one -/
def RgM (D Z : aw_S) (L : Nat) (r : RsT GpS) : Prop := (∀ k j, ¬ ((k = 114 ∧ j ≠ 50 ∧ j ≠ 51) ∨ (k = 115 ∧ (j < 552 ∨ 2208 ≤ j)) ∨ k = 121) → Z.1 k j = D.1 k j) ∧ (∀ k j, ¬ (k = 116 ∧ (j < 7 ∨ 28 ≤ j)) → Z.2.1 k j = D.2.1 k j) ∧ Z.2.2 = D.2.2 ∧ Z.1 114 10 = 0 ∧ match r with
  | .inl f => Z.1 114 16 = nI f.1 ∧ Z.1 114 17 = nI f.2 ∧ Z.1 114 2 = 9 ∧ (∀ j, j < 552 → Z.1 115 j = D.1 115 j) ∧ (∀ j, j < 7 → Z.2.1 116 j = D.2.1 116 j)
  | .inr s => Z.1 114 16 = 0 ∧ Z.1 114 17 = -1 ∧ Z.1 114 2 = 0 ∧ MdG Z.1 0 s.g ∧ Z.1 115 4 = 0 ∧ Z.1 115 5 = -1 ∧ ∀ d, d < s.g.n → Z.2.1 116 d = lN (p8 (s.nm d))
theorem gm_copy {l : Launch} {n : Nat} {D T : aw_S} {s : GpS} {P : Int32 → aw_S → Prop} (hRT : RefsOk T.2.2) (gB : GpB s) (G3 : MdG T.1 2208 s.g) (G4 : ∀ d, d < s.g.n → T.2.1 116 (28 + d) = lN (p8 (s.nm d))) (G6 : T.1 115 2212 = 0 ∧ T.1 115 2213 = -1) (f18 : T.1 114 18 = 0) (f17 : T.1 114 17 = -1) (dI : ∀ k j, ¬ ((k = 114 ∧ j ≠ 50 ∧ j ≠ 51) ∨ (k = 115 ∧ 2208 ≤ j) ∨ k = 121) → T.1 k j = D.1 k j) (dL : ∀ k j, ¬ (k = 116 ∧ 28 ≤ j) → T.2.1 k j = D.2.1 k j) (dR : T.2.2 = D.2.2) (e10 : T.1 114 10 = 0) (ks : ∀ Z, RgM D Z n (.inr s) → P (nI s.g.n) Z) : AW l m_Md_green 200 0 0 (gI sh0 P) 0 0 59 [.ref 114, .null, .null, .int 0] [] sh0 T := by
  have vz : vp_in 0 3864 := vp_in_nI (n := 0) (by omega) (by omega)
  have hn7 : s.g.n ≤ 7 := gB.1.1
  have hm40 : s.g.m ≤ 40 := gB.1.2.2.2.2.1
  -- names
  have key2 : ∀ m i W, i + m = 7 → (∀ k j, ¬ (k = 115 ∧ j < 552) → W.1 k j = T.1 k j) → (∀ j, j < 552 → W.1 115 j = T.1 115 (2208 + j)) → (∀ k j, ¬ (k = 116 ∧ j < 7) → W.2.1 k j = T.2.1 k j) → (∀ j, j < i → W.2.1 116 j = T.2.1 116 (28 + j)) → W.2.2 = T.2.2 → AW l m_Md_green 200 0 0 (gI sh0 P) 0 0 90 [.ref 114, .null, .null, .int (nI i)] [] sh0 W := by
    intro m
    induction m with
    | zero =>
      intro i W hi a1 a2 a3 a4 a5
      have hi : i = 7 := hi
      subst hi
      have e0 : W.1 115 (0 : Int32).toNatClampNeg = nI s.g.n := by
        show W.1 115 0 = _
        rw [a2 0 (by omega)]
        exact G3.1
      refine s_Md_green_90 rfl ⟨fun _ => ⟨115, by rw [a5]; exact hRT.at (by decide), 3864, rfl, vz, ?_⟩, fun z => absurd (by decide) z⟩
      rw [e0]
      have e18 : (aw_uI W 114 16 (W.1 114 18)).1 114 18 = 0 := by rw [uI_at, if_pos rfl, if_neg (by decide), a1 114 18 (by omega)]; exact f18
      refine e_Md_taken rfl ?_
      rw [e18]
      refine ⟨fun _ => e_Md_gives rfl (ks _ ⟨fun k j q => ?_, fun k j q => ?_, ?_, ?_, ?_, ?_, ?_, ?_, ?_, ?_, fun d hd => ?_⟩), fun z => absurd (Int32.le_refl _) z⟩
      · have n114 : k ≠ 114 ∨ (j = 50 ∨ j = 51) := by omega
        have e1 : (aw_uI (aw_uI W 114 16 (W.1 114 18)) 114 2 0).1 k j = W.1 k j := by
          rw [uI_at]
          by_cases z : k = 114
          · rw [if_pos z, if_neg (by omega), uI_at, if_pos rfl, if_neg (by omega), z]
          · rw [if_neg z, uI_ne _ _ _ z]
        rw [e1, a1 k j (by omega)]
        exact dI k j (by omega)
      · show W.2.1 k j = D.2.1 k j
        rw [a3 k j (by omega)]
        exact dL k j (by omega)
      · show W.2.2 = D.2.2
        rw [a5, dR]
      · rw [uI_at, if_pos rfl, if_neg (by decide), uI_at, if_pos rfl, if_neg (by decide), a1 114 10 (by omega)]
        exact e10
      · rw [uI_at, if_pos rfl, if_neg (by decide), uI_at, if_pos rfl, if_pos rfl, a1 114 18 (by omega)]; exact f18
      · rw [uI_at, if_pos rfl, if_neg (by decide), uI_at, if_pos rfl, if_neg (by decide), a1 114 17 (by omega)]; exact f17
      · rw [uI_at, if_pos rfl, if_pos rfl]
      · refine G3.mv hn7 hm40 (fun j hj => ?_)
        rw [uI_ne _ _ _ (by decide), uI_ne _ _ _ (by decide), Nat.zero_add]
        exact a2 j (by omega)
      · rw [uI_ne _ _ _ (by decide), uI_ne _ _ _ (by decide), a2 4 (by omega)]; exact G6.1
      · rw [uI_ne _ _ _ (by decide), uI_ne _ _ _ (by decide), a2 5 (by omega)]; exact G6.2
      · show W.2.1 116 d = _
        rw [a4 d (by omega)]
        exact G4 d hd
    | succ m ih =>
      intro i W hi a1 a2 a3 a4 a5
      refine s_Md_green_90 rfl ⟨fun z => absurd ((nI_leI (a := 7) (by omega) (by omega)).mp z) (by omega), fun _ => ⟨116, by rw [a5]; exact hRT.at (by decide), 42, rfl, ?_⟩⟩
      rw [show (28 : Int32) = nI 28 from rfl, nI_add, nI_clamp (by omega), nI_clamp (by omega), nI_1]
      refine ⟨vp_in_nI (by omega) (by omega), vp_in_nI (by omega) (by omega), ih (i + 1) _ (by omega) a1 a2 (fun k j q => ?_) (fun j hj => ?_) a5⟩
      · rw [uL_at]
        by_cases z : k = 116
        · rw [if_pos z, if_neg (by omega), ← z]; exact a3 k j q
        · rw [if_neg z]; exact a3 k j q
      · rw [uL_at, if_pos rfl]
        by_cases z : j = i
        · rw [if_pos z, z]; exact a3 116 (28 + i) (by omega)
        · rw [if_neg z]; exact a4 j (by omega)
  have key1 : ∀ m i W, i + m = 552 → (∀ k j, ¬ (k = 115 ∧ j < 552) → W.1 k j = T.1 k j) → (∀ j, j < i → W.1 115 j = T.1 115 (2208 + j)) → W.2 = T.2 → AW l m_Md_green 200 0 0 (gI sh0 P) 0 0 59 [.ref 114, .null, .null, .int (nI i)] [] sh0 W := by
    intro m
    induction m with
    | zero =>
      intro i W hi a1 a2 a3
      have hi : i = 552 := hi
      subst hi
      exact s_Md_green_59 rfl ⟨fun _ => key2 7 0 W (by omega) a1 a2 (fun _ _ _ => by rw [a3]) (fun j hj => absurd hj (Nat.not_lt_zero j)) (by rw [a3]), fun z => absurd (by decide) z⟩
    | succ m ih =>
      intro i W hi a1 a2 a3
      refine s_Md_green_59 rfl ⟨fun z => absurd ((nI_leI (a := 552) (by omega) (by omega)).mp z) (by omega), fun _ => ⟨115, by rw [a3]; exact hRT.at (by decide), 3864, rfl, ?_⟩⟩
      rw [show (2208 : Int32) = nI 2208 from rfl, nI_add, nI_clamp (by omega), nI_clamp (by omega), nI_1]
      refine ⟨vp_in_nI (by omega) (by omega), vp_in_nI (by omega) (by omega), ih (i + 1) _ (by omega) (fun k j q => ?_) (fun j hj => ?_) a3⟩
      · rw [uI_at]
        by_cases z : k = 115
        · rw [if_pos z, if_neg (by omega), ← z]; exact a1 k j q
        · rw [if_neg z]; exact a1 k j q
      · rw [uI_at, if_pos rfl]
        by_cases z : j = i
        · rw [if_pos z, z]; exact a1 115 (2208 + i) (by omega)
        · rw [if_neg z]; exact a2 j (by omega)
  exact key1 552 0 T (by omega) (fun _ _ _ => rfl) (fun j hj => absurd hj (Nat.not_lt_zero j)) rfl
theorem gm_run {l : Launch} {n : Nat} {B : Nat → Nat} {D T0 V : aw_S} {P : Int32 → aw_S → Prop} (hR0 : RefsOk T0.2.2) (hn9 : n ≤ 900) (F0 : FrI BX D T0) (e10 : T0.1 114 10 = 0) (G0 : TmG T0 B n (tkF B n 0)) (vL : V.2.1 = T0.2.1) (vR : V.2.2 = T0.2.2) (v20 : V.1 114 20 = 0) (c114 : ∀ j, j ≠ 20 → V.1 114 j = T0.1 114 j) (cko : ∀ k j, k ≠ 114 → k ≠ 115 → V.1 k j = T0.1 k j) (c115 : ∀ j, V.1 115 j = if 2208 ≤ j ∧ j < 2760 then (if j = 2213 then -1 else if j = 2210 then 12 else if j = 2209 then 2 else 0) else T0.1 115 j) (kf : ∀ Z f, gall B n (n + 1) (gs0 B n) = .inl f → RgM D Z n (.inl f) → P (-1) Z) (ks : ∀ Z s, gall B n (n + 1) (gs0 B n) = .inr s → RgM D Z n (.inr s) → P (nI s.g.n) Z) : AW l m_Md_green 200 0 0 (gI sh0 P) 0 0 31 [.ref 114, .null, .int 1, .null] [] sh0 V := by
  have w0 := (tkF_ok (B := B) (L := n) (q := 0) (Nat.zero_le _)).1
  have hok : ∀ f, gall B n (n + 1) (gs0 B n) = .inl f → okF n f := fun f e => gall_l (n + 1) (gs0 B n) (gs0_B B n) w0 e
  have hRV : RefsOk V.2.2 := by rw [vR]; exact hR0
  have V0 : GmR V V B n (gs0 B n) := by
    refine ⟨⟨fun _ _ _ => rfl, fun _ _ _ => rfl, rfl⟩, G0.fr (fun j hj => c114 j (by omega)) (funext fun j => cko 121 j (by decide) (by decide)) vR, ⟨?_, ?_, ?_, ?_, fun k hk => absurd hk (Nat.not_lt_zero k), fun k hk => absurd hk (Nat.not_lt_zero k), fun k hk => absurd hk (Nat.not_lt_zero k)⟩, fun k hk => absurd hk (Nat.not_lt_zero k), ?_, ?_⟩
    · rw [c115, if_pos (by omega), if_neg (by omega), if_neg (by omega), if_neg (by omega)]; rfl
    · rw [c115, if_pos (by omega), if_neg (by omega), if_neg (by omega), if_pos (by omega)]; rfl
    · rw [c115, if_pos (by omega), if_neg (by omega), if_pos (by omega)]; rfl
    · rw [c115, if_pos (by omega), if_neg (by omega), if_neg (by omega), if_neg (by omega)]; rfl
    · rw [v20]; rfl
    · rw [c115, if_pos (by omega), if_neg (by omega), if_neg (by omega), if_neg (by omega), c115, if_pos (by omega), if_pos (by omega)]; exact ⟨rfl, rfl⟩
  have vz : vp_in 0 3864 := vp_in_nI (n := 0) (by omega) (by omega)
  have dV : ∀ k j, ¬ ((k = 114 ∧ j ≠ 16 ∧ j ≠ 50 ∧ j ≠ 51) ∨ (k = 115 ∧ 2208 ≤ j) ∨ k = 121) → V.1 k j = D.1 k j := fun k j q => by
    have e1 : V.1 k j = T0.1 k j := by
      by_cases z : k = 114
      · rw [z]; exact c114 j (by omega)
      · by_cases y : k = 115
        · rw [y, c115, if_neg (by omega)]
        · exact cko k j z y
    rw [e1]
    exact F0.1 k j (by unfold BX; omega)
  have dL : V.2.1 = D.2.1 := by rw [vL, F0.L]
  have dR : V.2.2 = D.2.2 := by rw [vR, F0.R]
  refine gm_loop (d := 190) hRV (fun T f G M e => ⟨115, by rw [G.2.2]; exact hRV.at (by decide), 3864, rfl, vz, ?_⟩) (fun T s G e => ?_) hok (by omega) (n + 1) (gs0 B n) V (fun _ => by omega) (gs0_B B n) V0 rfl
  · have o5 := hok f e.symm
    have e18 : (aw_uI T 114 16 (T.1 114 18)).1 114 18 = nI f.1 := by rw [uI_at, if_pos rfl, if_neg (by decide)]; exact M.1
    refine e_Md_taken rfl ?_
    rw [e18]
    refine ⟨fun z => ?_, fun _ => e_Md_refuse rfl (kf _ f e.symm ⟨fun k j q => ?_, fun k j q => ?_, ?_, ?_, ?_, ?_, ?_, fun j hj => ?_, fun j hj => ?_⟩)⟩
    · have := (nI_leI (b := 0) (by have := o5.2.1; omega) (by omega)).mp z
      have := o5.1
      omega
    · have e1 : (aw_uI (aw_uI T 114 16 (T.1 114 18)) 114 2 9).1 k j = T.1 k j := by
        rw [uI_at]
        by_cases z : k = 114
        · rw [if_pos z, if_neg (by omega), uI_at, if_pos rfl, if_neg (by omega), z]
        · rw [if_neg z, uI_ne _ _ _ z]
      rw [e1, G.1 k j (by unfold GmX FX; omega)]
      exact dV k j (by omega)
    · show T.2.1 k j = D.2.1 k j
      rw [G.2.1 k j (by omega), dL]
    · show T.2.2 = D.2.2
      rw [G.2.2, dR]
    · rw [uI_at, if_pos rfl, if_neg (by decide), uI_at, if_pos rfl, if_neg (by decide), G.1 114 10 (by unfold GmX FX; omega), c114 10 (by decide)]
      exact e10
    · rw [uI_at, if_pos rfl, if_neg (by decide), uI_at, if_pos rfl, if_pos rfl]; exact M.1
    · rw [uI_at, if_pos rfl, if_neg (by decide), uI_at, if_pos rfl, if_neg (by decide)]; exact M.2
    · rw [uI_at, if_pos rfl, if_pos rfl]
    · rw [uI_ne _ _ _ (by decide), uI_ne _ _ _ (by decide), G.1 115 j (by unfold GmX FX; omega)]
      exact dV 115 j (by omega)
    · show T.2.1 116 j = D.2.1 116 j
      rw [G.2.1 116 j (by omega), dL]
  · have gB := gall_r (n + 1) (gs0 B n) s (gs0_B B n) w0 e.symm
    obtain ⟨G1, G2, G3, G4, G5, G6⟩ := G
    have hRT : RefsOk T.2.2 := by rw [G1.2.2]; exact hRV
    have f18 := G2.2.2.2.1
    have f17 := G2.2.2.2.2
    exact gm_copy hRT gB G3 G4 G6 f18 f17 (fun k j q => by rw [G1.1 k j (by unfold GmX FX; omega)]; exact dV k j (by omega)) (fun k j q => by rw [G1.2.1 k j (by omega), dL]) (by rw [G1.2.2, dR]) (by rw [G1.1 114 10 (by unfold GmX FX; omega), c114 10 (by decide)]; exact e10) (fun Z hZ => ks Z s e.symm hZ)
theorem pq_L (T0 : aw_S) : (aw_uI (pl_E 115 T0 2208) 114 20 0).2.1 = T0.2.1 := by rw [uI_L, plE_L]
theorem pq_R (T0 : aw_S) : (aw_uI (pl_E 115 T0 2208) 114 20 0).2.2 = T0.2.2 := by rw [uI_R, plE_R]
theorem pq_20 (T0 : aw_S) : (aw_uI (pl_E 115 T0 2208) 114 20 0).1 114 20 = 0 := by rw [uI_at, if_pos rfl, if_pos rfl]
theorem pq_114 (T0 : aw_S) : ∀ j, j ≠ 20 → (aw_uI (pl_E 115 T0 2208) 114 20 0).1 114 j = T0.1 114 j := fun j hj => by rw [uI_at, if_pos rfl, if_neg hj, plE_at, if_neg (fun z => absurd z.1 (by decide))]
theorem pq_o (T0 : aw_S) : ∀ k j, k ≠ 114 → k ≠ 115 → (aw_uI (pl_E 115 T0 2208) 114 20 0).1 k j = T0.1 k j := fun k j q1 q2 => by rw [uI_ne _ _ _ q1, plE_at, if_neg (fun z => q2 z.1)]
theorem pq_115 (T0 : aw_S) : ∀ j, (aw_uI (pl_E 115 T0 2208) 114 20 0).1 115 j = if 2208 ≤ j ∧ j < 2760 then (if j = 2213 then -1 else if j = 2210 then 12 else if j = 2209 then 2 else 0) else T0.1 115 j := fun j => by
  rw [uI_ne _ _ _ (by decide), plE_at]
  by_cases z : 2208 ≤ j ∧ j < 2760
  · rw [if_pos z, if_pos (show (115 : Nat) = 115 ∧ 2208 ≤ j ∧ j < 2208 + 552 from ⟨rfl, z.1, by have := z.2; omega⟩)]
  · rw [if_neg z, if_neg (fun y => z ⟨y.2.1, by have := y.2.2; omega⟩)]
theorem sp_greenM {l : Launch} {n tp : Nat} {B : Nat → Nat} {D : aw_S} {P : Int32 → aw_S → Prop} (hR : RefsOk D.2.2) (htp : D.1 114 10 = nI tp) (h1 : n ≤ tp) (h2 : tp ≤ 900) (hT : ∀ j, j < n → (D.1 120 j).toInt8.toInt32 = D.1 120 j ∧ D.1 120 j &&& 255 = nI (B j) ∧ B j < 256) (kf : ∀ Z f, gall B n (n + 1) (gs0 B n) = .inl f → RgM D Z n (.inl f) → P (-1) Z) (ks : ∀ Z s, gall B n (n + 1) (gs0 B n) = .inr s → RgM D Z n (.inr s) → P (nI s.g.n) Z) : Sp l m_Md_green 200 0 0 [.ref 114, .int (nI n)] sh0 D (gI sh0 P) := by
  refine e_Md_green rfl (sp_begins (most := 900) (d := 196) hR htp h1 h2 (by omega) (by omega) hT (fun T0 F0 e10 G0 => ⟨fun _ => ?_, fun y => absurd y (by decide)⟩))
  have hR0 : RefsOk T0.2.2 := by rw [F0.R]; exact hR
  refine sp_Md_plain (slot := 2208) (A := 115) rfl (hR0.at (by decide)) rfl (by omega) ?_
  refine gm_run hR0 (by omega) F0 e10 G0 (pq_L T0) (pq_R T0) (pq_20 T0) (pq_114 T0) (pq_o T0) (pq_115 T0) kf ks
