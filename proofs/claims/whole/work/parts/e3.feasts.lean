/-! feasts as a text: the reference reads all of it -/
def RfM (D Z : aw_S) (r : RsT FpS) : Prop := (∀ k j, ¬ ((k = 114 ∧ j ≠ 50 ∧ j ≠ 51) ∨ (k = 115 ∧ (j = 5 ∨ (184 ≤ j ∧ j < 544) ∨ 2208 ≤ j)) ∨ k = 121 ∨ k = 122) → Z.1 k j = D.1 k j) ∧ Z.2 = D.2 ∧ Z.1 114 10 = 0 ∧ match r with
  | .inl f => Z.1 114 16 = nI f.1 ∧ Z.1 114 17 = nI f.2 ∧ Z.1 114 2 = 9 ∧ (∀ j, j < 552 → Z.1 115 j = D.1 115 j)
  | .inr s => Z.1 114 16 = 0 ∧ Z.1 114 17 = -1 ∧ Z.1 114 2 = 0 ∧ FdM Z.1 0 s
section FML
variable {l : Launch} {d L n : Nat} {B : Nat → Nat} {nm : Nat → List Nat}
theorem fm_loop {V : aw_S} {P : Int32 → aw_S → Prop} (hR : RefsOk V.2.2) (hn : n ≤ 7) (h0 : V.1 115 0 = nI n) (hnm : ∀ d, d < n → V.2.1 116 d = lN (p8 (nm d)) ∧ okW (nm d)) (k0 : ∀ T f, FrI FmX V T → FtM T f → .inl f = fall B L n nm (L + 1) (fs0 B L) → Sp l m_Md_taken (d + 10) 0 0 [.ref 114, .int (T.1 114 23)] sh0 T (gI sh0 P)) (k1 : ∀ T s, FmR V T B L s → .inr s = fall B L n nm (L + 1) (fs0 B L) → AW l m_Md_feasts (d + 11) 0 0 (gI sh0 P) 0 0 102 [.ref 114, .null, .null, .int 184] [] sh0 (aw_uI T 115 5 (T.1 115 2213))) (hok : ∀ f, fall B L n nm (L + 1) (fs0 B L) = .inl f → okF L f) (hL : L ≤ 900) : ∀ f s T, (s.t.k ≠ 0 → L + 1 - s.t.e ≤ f) → FpB n s → FmR V T B L s → fall B L n nm f s = fall B L n nm (L + 1) (fs0 B L) → AW l m_Md_feasts (d + 11) 0 0 (gI sh0 P) 0 0 38 [.ref 114, .null, .int 1, .null] [] sh0 T := by
  have nz : ∀ T f, FtM T f → .inl f = fall B L n nm (L + 1) (fs0 B L) → ¬ T.1 114 18 = 0 := by
    intro T f M e z
    have o5 := hok f e.symm
    rw [M.1] at z
    have := (nI_inj (b := 0) (by have := o5.2.1; omega) (by omega)).mp z
    have := o5.1
    omega
  have v5 : vp_in 2213 3864 ∧ vp_in 5 3864 := ⟨vp_in_nI (n := 2213) (by omega) (by omega), vp_in_nI (n := 5) (by omega) (by omega)⟩
  have fin : ∀ s T, FpB n s → FmR V T B L s → s.t.k = 0 → fend s = fall B L n nm (L + 1) (fs0 B L) → AW l m_Md_feasts (d + 11) 0 0 (gI sh0 P) 0 0 38 [.ref 114, .null, .int 1, .null] [] sh0 T := by
    intro s T hB h kz e
    obtain ⟨h1, h2, h3, h5, h6, h7⟩ := id h
    obtain ⟨x, c, w, f0, f1⟩ := id h2
    have is0 := c.is w (q := 0) (by omega)
    have b1 := hB.1
    have hRT : RefsOk T.2.2 := by rw [h1.R]; exact hR
    unfold fend at e
    refine s_Md_feasts_38 rfl ⟨fun z => absurd z (by decide), fun _ => ⟨fun _ => ⟨fun z => absurd f0 z, fun _ => ⟨fun z => ⟨fun y => absurd f0 y, fun _ => ⟨115, hRT.at (by decide), 3864, rfl, v5.1, v5.2, ?_⟩⟩, fun z => ?_⟩⟩, fun z => absurd (is0.mpr kz) z⟩⟩
    · rw [h5] at z
      have D0 : s.D ≤ 0 := (nI_leI (b := 0) (by omega) (by omega)).mp z
      rw [if_pos (by omega)] at e
      exact k1 T s h e
    · rw [h5] at z
      have D0 : ¬ s.D = 0 := fun y => z (by rw [y]; exact nI_le (a := 0) (b := 0) (by omega) (by omega))
      rw [if_neg D0] at e
      refine sp_failsM (k0 := 2) h2 (fun S' F M => ⟨fun _ => k0 S' _ (h1.trans (F.mono (fun _ _ q => Or.inl q))) M e, fun y => absurd y (nz S' _ M e)⟩)
  intro f
  induction f with
  | zero =>
    intro s T hf hB h e
    have w := h.2.1.2.2.1
    have kz : s.t.k = 0 := Classical.byContradiction (fun y => by
      have := hf y
      have := w.2.1
      omega)
    exact fin s T hB h kz (by rw [← e, fall_0 kz])
  | succ f ih =>
    intro s T hf hB h e
    obtain ⟨x, c, w, f0, f1⟩ := id h.2.1
    have wL := w.2.1
    have is0 := c.is w (q := 0) (by omega)
    by_cases kz : s.t.k = 0
    · exact fin s T hB h kz (by rw [← e, fall_0 kz])
    · refine s_Md_feasts_38 rfl ⟨fun z => absurd z (by decide), fun _ => ⟨fun z => absurd (is0.mp z) kz, fun z => ?_⟩⟩
      have hf' := hf kz
      refine sp_feastStep hR hn h0 hnm hB h (fun x T' hx o => ?_)
      unfold fall at e
      rw [if_neg kz] at e
      cases eg : fstep B L n nm s with
      | inl fl =>
        rw [eg] at o e
        obtain ⟨o1, o2, o3⟩ := o
        subst o1
        have q := nz T' fl o3 e
        exact s_Md_feasts_38 rfl ⟨fun _ => ⟨fun _ => ⟨fun _ => k0 T' fl o2 o3 e, fun y => absurd y q⟩, fun y => absurd y q⟩, fun y => absurd rfl y⟩
      | inr s' =>
        rw [eg] at o e
        obtain ⟨o1, o2⟩ := o
        subst o1
        obtain ⟨q1, q2, q3⟩ := fstep_r eg hB w
        refine ih s' T' (fun y => ?_) q1 o2 e
        have := q3.2.2.2.1 y
        omega
theorem FdM.mv {I I' : Nat → Nat → Int32} {q q' : Nat} {s : FpS} (h : FdM I q s) (hN : s.N ≤ 60) (e5 : I' 115 (q' + 5) = I 115 (q + 5)) (e : ∀ j, 184 ≤ j → j < 544 → I' 115 (q' + j) = I 115 (q + j)) : FdM I' q' s := by
  obtain ⟨h1, h2⟩ := h
  refine ⟨e5.trans h1, fun e0 he => ?_⟩
  have m : ∀ i, i < 6 → I' 115 (q' + 184 + 6 * e0 + i) = I 115 (q + 184 + 6 * e0 + i) := fun i hi => by
    have := e (184 + 6 * e0 + i) (by omega) (by omega)
    rw [show q' + 184 + 6 * e0 + i = q' + (184 + 6 * e0 + i) by omega, show q + 184 + 6 * e0 + i = q + (184 + 6 * e0 + i) by omega]
    exact this
  have m0 := m 0 (by omega)
  rw [Nat.add_zero, Nat.add_zero] at m0
  rw [m0, m 1 (by omega), m 2 (by omega), m 4 (by omega), m 5 (by omega)]
  exact h2 e0 he
theorem fm_copy {D T : aw_S} {s : FpS} {P : Int32 → aw_S → Prop} (hRT : RefsOk T.2.2) (gB : FpB n s) (G3 : FdM T.1 2208 s) (G23 : T.1 114 23 = nI (ncN s.cd s.N)) (f18 : T.1 114 18 = 0) (f17 : T.1 114 17 = -1) (dI : ∀ k j, ¬ ((k = 114 ∧ j ≠ 50 ∧ j ≠ 51) ∨ (k = 115 ∧ 2208 ≤ j) ∨ k = 121 ∨ k = 122) → T.1 k j = D.1 k j) (dR : T.2 = D.2) (e10 : T.1 114 10 = 0) (ks : ∀ Z, RfM D Z (.inr s) → P (nI (ncN s.cd s.N)) Z) : AW l m_Md_feasts (d + 11) 0 0 (gI sh0 P) 0 0 102 [.ref 114, .null, .null, .int 184] [] sh0 (aw_uI T 115 5 (T.1 115 2213)) := by
  have N60 := gB.n60
  have key : ∀ m i W, i + m = 544 → 184 ≤ i → (∀ k j, ¬ (k = 115 ∧ (j = 5 ∨ (184 ≤ j ∧ j < 544))) → W.1 k j = T.1 k j) → W.1 115 5 = T.1 115 2213 → (∀ j, 184 ≤ j → j < i → W.1 115 j = T.1 115 (2208 + j)) → W.2 = T.2 → AW l m_Md_feasts (d + 11) 0 0 (gI sh0 P) 0 0 102 [.ref 114, .null, .null, .int (nI i)] [] sh0 W := by
    intro m
    induction m with
    | zero =>
      intro i W hi _ a1 a5 a2 a3
      have hi : i = 544 := hi
      subst hi
      refine s_Md_feasts_102 rfl ⟨fun _ => ?_, fun z => absurd (by decide) z⟩
      rw [a1 114 23 (by omega), G23]
      have e18 : (aw_uI W 114 16 (W.1 114 18)).1 114 18 = 0 := by rw [uI_at, if_pos rfl, if_neg (by decide), a1 114 18 (by omega)]; exact f18
      refine e_Md_taken rfl ?_
      rw [e18]
      refine ⟨fun _ => e_Md_gives rfl (ks _ ⟨fun k j q => ?_, ?_, ?_, ?_, ?_, ?_, ?_⟩), fun z => absurd (Int32.le_refl _) z⟩
      · have e1 : (aw_uI (aw_uI W 114 16 (W.1 114 18)) 114 2 0).1 k j = W.1 k j := by
          rw [uI_at]
          by_cases z : k = 114
          · rw [if_pos z, if_neg (by omega), uI_at, if_pos rfl, if_neg (by omega), z]
          · rw [if_neg z, uI_ne _ _ _ z]
        rw [e1, a1 k j (by omega)]
        exact dI k j (by omega)
      · show W.2 = D.2
        rw [a3, dR]
      · rw [uI_at, if_pos rfl, if_neg (by decide), uI_at, if_pos rfl, if_neg (by decide), a1 114 10 (by omega)]
        exact e10
      · rw [uI_at, if_pos rfl, if_neg (by decide), uI_at, if_pos rfl, if_pos rfl, a1 114 18 (by omega)]; exact f18
      · rw [uI_at, if_pos rfl, if_neg (by decide), uI_at, if_pos rfl, if_neg (by decide), a1 114 17 (by omega)]; exact f17
      · rw [uI_at, if_pos rfl, if_pos rfl]
      · refine G3.mv N60 ?_ (fun j h1 h2 => ?_)
        · rw [uI_ne _ _ _ (by decide), uI_ne _ _ _ (by decide)]
          exact a5
        · rw [uI_ne _ _ _ (by decide), uI_ne _ _ _ (by decide), Nat.zero_add]
          exact a2 j h1 h2
    | succ m ih =>
      intro i W hi h184 a1 a5 a2 a3
      refine s_Md_feasts_102 rfl ⟨fun z => absurd ((nI_leI (a := 544) (by omega) (by omega)).mp z) (by omega), fun _ => ⟨115, by rw [a3]; exact hRT.at (by decide), 3864, rfl, ?_⟩⟩
      rw [show (2208 : Int32) = nI 2208 from rfl, nI_add, nI_clamp (by omega), nI_clamp (by omega), nI_1]
      refine ⟨vp_in_nI (by omega) (by omega), vp_in_nI (by omega) (by omega), ih (i + 1) _ (by omega) (by omega) (fun k j q => ?_) ?_ (fun j h1 hj => ?_) a3⟩
      · rw [uI_at]
        by_cases z : k = 115
        · rw [if_pos z, if_neg (by omega), ← z]; exact a1 k j q
        · rw [if_neg z]; exact a1 k j q
      · rw [uI_at, if_pos rfl, if_neg (by omega)]; exact a5
      · rw [uI_at, if_pos rfl]
        by_cases z : j = i
        · rw [if_pos z, z]; exact a1 115 (2208 + i) (by omega)
        · rw [if_neg z]; exact a2 j h1 (by omega)
  refine key 360 184 _ (by omega) (by omega) (fun k j q => ?_) (by rw [uI_at, if_pos rfl, if_pos rfl]) (fun j h1 hj => by omega) rfl
  rw [uI_at]
  by_cases z : k = 115
  · rw [if_pos z, if_neg (by omega), z]
  · rw [if_neg z]
theorem sp_feastsM {tp : Nat} {D : aw_S} {P : Int32 → aw_S → Prop} (hR : RefsOk D.2.2) (hn : n ≤ 7) (h0 : D.1 115 0 = nI n) (hnm : ∀ d, d < n → D.2.1 116 d = lN (p8 (nm d)) ∧ okW (nm d)) (htp : D.1 114 10 = nI tp) (h1 : L ≤ tp) (h2 : tp ≤ 900) (h3 : L ≤ 300) (hT : ∀ j, j < L → (D.1 120 j).toInt8.toInt32 = D.1 120 j ∧ D.1 120 j &&& 255 = nI (B j) ∧ B j < 256) (kf : ∀ Z f, fall B L n nm (L + 1) (fs0 B L) = .inl f → RfM D Z (.inl f) → P (-1) Z) (ks : ∀ Z s, fall B L n nm (L + 1) (fs0 B L) = .inr s → RfM D Z (.inr s) → P (nI (ncN s.cd s.N)) Z) : Sp l m_Md_feasts (d + 12) 0 0 [.ref 114, .int (nI L)] sh0 D (gI sh0 P) := by
  have w0 := (tkF_ok (B := B) (L := L) (q := 0) (Nat.zero_le _)).1
  have hok : ∀ f, fall B L n nm (L + 1) (fs0 B L) = .inl f → okF L f := fun f e => fall_l (L + 1) (fs0 B L) (fs0_B B L n) w0 e
  refine e_Md_feasts rfl (sp_begins (most := 300) (d := d + 8) hR htp h1 h2 h3 (by omega) hT (fun T0 F0 e10 G0 => ⟨fun _ => ⟨115, by rw [F0.R]; exact hR.at (by decide), 3864, rfl, vp_in_nI (n := 2213) (by omega) (by omega), ?_⟩, fun y => absurd y (by decide)⟩))
  show AW l m_Md_feasts (d + 12) 0 0 (gI sh0 P) 0 0 38 [.ref 114, .null, .int 1, .null] [] sh0 (aw_uI (aw_uI (aw_uI T0 115 2213 0) 114 22 0) 114 23 0)
  have hR0 : RefsOk T0.2.2 := by rw [F0.R]; exact hR
  have vI : ∀ k j, ¬ ((k = 115 ∧ j = 2213) ∨ (k = 114 ∧ (j = 22 ∨ j = 23))) → (aw_uI (aw_uI (aw_uI T0 115 2213 0) 114 22 0) 114 23 0).1 k j = T0.1 k j := fun k j q => by
    rw [uI_at]
    by_cases z : k = 114
    · rw [if_pos z, if_neg (by omega), uI_at, if_pos rfl, if_neg (by omega), uI_ne _ _ _ (by omega), z]
    · rw [if_neg z, uI_ne _ _ _ z, uI_at]
      by_cases y : k = 115
      · rw [if_pos y, if_neg (by omega), y]
      · rw [if_neg y]
  have vv : (aw_uI (aw_uI (aw_uI T0 115 2213 0) 114 22 0) 114 23 0).1 115 2213 = 0 ∧ (aw_uI (aw_uI (aw_uI T0 115 2213 0) 114 22 0) 114 23 0).1 114 22 = 0 ∧ (aw_uI (aw_uI (aw_uI T0 115 2213 0) 114 22 0) 114 23 0).1 114 23 = 0 := by
    simp only [uI_at]
    exact ⟨rfl, rfl, rfl⟩
  have v2 : (aw_uI (aw_uI (aw_uI T0 115 2213 0) 114 22 0) 114 23 0).2 = T0.2 := rfl
  generalize aw_uI (aw_uI (aw_uI T0 115 2213 0) 114 22 0) 114 23 0 = V at vI vv v2
  obtain ⟨x1, x2, x3⟩ := vv
  have vR : V.2.2 = T0.2.2 := by rw [v2]
  have vL : V.2.1 = T0.2.1 := by rw [v2]
  have hRV : RefsOk V.2.2 := by rw [vR]; exact hR0
  have V0 : FmR V V B L (fs0 B L) := ⟨FrI.refl _ V, G0.fr (fun j hj => vI 114 j (by omega)) (funext fun j => vI 121 j (by omega)) vR, ⟨x1, fun e he => absurd he (Nat.not_lt_zero e)⟩, x2, x3, fun i hi => absurd hi (Nat.not_lt_zero i)⟩
  have dV : ∀ k j, ¬ ((k = 114 ∧ j ≠ 16 ∧ j ≠ 50 ∧ j ≠ 51) ∨ (k = 115 ∧ 2208 ≤ j) ∨ k = 121) → V.1 k j = D.1 k j := fun k j q => by
    rw [vI k j (by omega)]
    exact F0.1 k j (by unfold BX; omega)
  have d2 : V.2 = D.2 := by rw [v2, F0.2]
  have n0 : V.1 115 0 = nI n := by rw [dV 115 0 (by omega)]; exact h0
  have e10V : V.1 114 10 = 0 := by rw [vI 114 10 (by omega)]; exact e10
  refine fm_loop (d := d + 1) hRV hn n0 (fun d hd => by rw [vL, F0.L]; exact hnm d hd) (fun T f G M e => ?_) (fun T s G e => ?_) hok (by omega) (L + 1) (fs0 B L) V (fun _ => by omega) (fs0_B B L n) V0 rfl
  · have o5 := hok f e.symm
    have e18 : (aw_uI T 114 16 (T.1 114 18)).1 114 18 = nI f.1 := by rw [uI_at, if_pos rfl, if_neg (by decide)]; exact M.1
    refine e_Md_taken rfl ?_
    rw [e18]
    refine ⟨fun z => ?_, fun _ => e_Md_refuse rfl (kf _ f e.symm ⟨fun k j q => ?_, ?_, ?_, ?_, ?_, ?_, fun j hj => ?_⟩)⟩
    · have := (nI_leI (b := 0) (by have := o5.2.1; omega) (by omega)).mp z
      have := o5.1
      omega
    · have e1 : (aw_uI (aw_uI T 114 16 (T.1 114 18)) 114 2 9).1 k j = T.1 k j := by
        rw [uI_at]
        by_cases z : k = 114
        · rw [if_pos z, if_neg (by omega), uI_at, if_pos rfl, if_neg (by omega), z]
        · rw [if_neg z, uI_ne _ _ _ z]
      rw [e1, G.1 k j (by unfold FmX FX; omega)]
      exact dV k j (by omega)
    · show T.2 = D.2
      rw [G.2, d2]
    · rw [uI_at, if_pos rfl, if_neg (by decide), uI_at, if_pos rfl, if_neg (by decide), G.1 114 10 (by unfold FmX FX; omega)]
      exact e10V
    · rw [uI_at, if_pos rfl, if_neg (by decide), uI_at, if_pos rfl, if_pos rfl]; exact M.1
    · rw [uI_at, if_pos rfl, if_neg (by decide), uI_at, if_pos rfl, if_neg (by decide)]; exact M.2
    · rw [uI_at, if_pos rfl, if_pos rfl]
    · rw [uI_ne _ _ _ (by decide), uI_ne _ _ _ (by decide), G.1 115 j (by unfold FmX FX; omega)]
      exact dV 115 j (by omega)
  · have gB := (fall_r (L + 1) (fs0 B L) s (fs0_B B L n) w0 e.symm).1
    obtain ⟨G1, G2, G3, G4, G5, G6⟩ := G
    have hRT : RefsOk T.2.2 := by rw [G1.R]; exact hRV
    exact fm_copy hRT gB G3 G5 G2.2.2.2.1 G2.2.2.2.2 (fun k j q => by rw [G1.1 k j (by unfold FmX FX; omega)]; exact dV k j (by omega)) (by rw [G1.2, d2]) (by rw [G1.1 114 10 (by unfold FmX FX; omega)]; exact e10V) (fun Z hZ => ks Z s e.symm hZ)
end FML
