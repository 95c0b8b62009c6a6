/-! feasts as a text: the reference takes an end, and any step -/
section FME
variable {l : Launch} {d L n : Nat} {B : Nat → Nat} {S0 T : aw_S} {s : FpS} {nm : Nat → List Nat}
theorem fm_end {P : Int32 → aw_S → Prop} {T1 : aw_S} (hR : RefsOk S0.2.2) (hB : FpB n s) (h : FmR S0 T B L s) (hD : 0 < s.D) (hT1 : FrI (fun c j => (c = 114 ∧ j = 23) ∨ (c = 115 ∧ j = 2392 + 6 * s.N)) T T1) (e23 : T1.1 114 23 = nI (ncN s.cd s.N)) (ev : T1.1 115 (2392 + 6 * s.N) = nI 13) (kk : ∀ x T', (x = 0 ∨ x = 1) → OutG S0 B L x T' (seK B L (tkF B L s.t.e) fun t' => .inr (cloS s t')) → P x T') : AW l m_Md_feastStep (d + 10) 0 0 (gI sh0 P) 0 0 164 [.ref 114, .int 13, .int (nI s.N), .int (nI (2392 + 6 * s.N)), .int 0, .null, .int 1] [] sh0 T1 := by
  have h1 := h.1
  have hD3 := hB.1
  have hN : s.N ≤ 59 := by
    have := hB.2.2.1
    have := hB.2.1
    omega
  obtain ⟨o1, o2, o3⟩ := hB.2.2.2.2.2.2.1 (s.D - 1) (by omega)
  have hRT : RefsOk T.2.2 := by rw [h1.R]; exact hR
  have hRT1 : RefsOk T1.2.2 := by rw [hT1.R]; exact hRT
  refine fm_zero (by omega) (hRT1.at (by decide)) (fun U hU => ?_)
  obtain ⟨u1, u2⟩ := fm_5 h hT1 hU
  have hRU : RefsOk U.2.2 := by rw [hU.R]; exact hRT1
  refine s_Md_feastStep_164 rfl ⟨fun _ => ⟨115, hRU.at (by decide), 3864, rfl, vp_in_nI (n := 2213) (by omega) (by omega), vp_in_nI (n := 2213) (by omega) (by omega), ?_⟩, fun z => absurd (by decide) z⟩
  have u1' : U.1 115 (2213 : Int32).toNatClampNeg = nI s.N := u1
  rw [u1', nI_1]
  show Sp l m_Md_ahead (d + 9) 0 0 [.ref 114] sh0 (aw_uI U 115 2213 (nI (s.N + 1))) _
  refine sp_aheadM u2 (fun S7 F7 T7 => ?_)
  obtain ⟨g1, g2, g3, g4, g5⟩ := fm_7 h hN hT1 e23 ev hU (AXF F7)
  have g22 : S7.2.2 = T.2.2 := by rw [g2]
  have hR7 : RefsOk S7.2.2 := by rw [g22]; exact hRT
  have f7 : FrI FmX S0 S7 := by
    refine ⟨fun c j q => ?_, by rw [g2, h1.2]⟩
    rw [g1 c j (by unfold FmX at q; unfold FX at q ⊢; omega)]
    exact h1.1 c j q
  have d22 : S7.1 114 22 = nI s.D := by rw [g1 114 22 (by unfold FX; omega)]; exact h.2.2.2.1
  have d122 : S7.1 122 (s.D - 1) = nI (s.sk (s.D - 1)) := by rw [g1 122 _ (by unfold FX; omega)]; exact h.2.2.2.2.2 (s.D - 1) (by omega)
  have e22 : S7.1 114 22 - 1 = nI (s.D - 1) := by
    rw [d22]
    have : nI s.D = nI (s.D - 1 + 1) := by rw [show s.D - 1 + 1 = s.D by omega]
    rw [this, nI_pred]
  have go : ∃ r16, (aw_uI S7 114 22 ((S7.1 114 22) - (1 : Int32))).2.2 114 0 = some r16 ∧ ∃ r17, (aw_uI S7 114 22 ((S7.1 114 22) - (1 : Int32))).2.2 114 21 = some r17 ∧ ∃ n19, sh0[r17]? = some (3, n19) ∧ vp_in ((aw_uI S7 114 22 ((S7.1 114 22) - (1 : Int32))).1 114 22) n19 ∧ ∃ n22, sh0[r16]? = some (3, n22) ∧ vp_in (nI (2392 + 6 * s.N) + (4 : Int32)) n22 ∧ vp_in ((aw_uI (aw_uI S7 114 22 ((S7.1 114 22) - (1 : Int32))) r16 ((nI (2392 + 6 * s.N) + (4 : Int32) : Int32).toNatClampNeg) ((aw_uI S7 114 22 ((S7.1 114 22) - (1 : Int32))).1 r17 ((aw_uI S7 114 22 ((S7.1 114 22) - (1 : Int32))).1 114 22 : Int32).toNatClampNeg)).1 114 22) n19 ∧ vp_in (((2392 : Int32) + ((6 : Int32) * ((aw_uI (aw_uI S7 114 22 ((S7.1 114 22) - (1 : Int32))) r16 ((nI (2392 + 6 * s.N) + (4 : Int32) : Int32).toNatClampNeg) ((aw_uI S7 114 22 ((S7.1 114 22) - (1 : Int32))).1 r17 ((aw_uI S7 114 22 ((S7.1 114 22) - (1 : Int32))).1 114 22 : Int32).toNatClampNeg)).1 r17 ((aw_uI (aw_uI S7 114 22 ((S7.1 114 22) - (1 : Int32))) r16 ((nI (2392 + 6 * s.N) + (4 : Int32) : Int32).toNatClampNeg) ((aw_uI S7 114 22 ((S7.1 114 22) - (1 : Int32))).1 r17 ((aw_uI S7 114 22 ((S7.1 114 22) - (1 : Int32))).1 114 22 : Int32).toNatClampNeg)).1 114 22 : Int32).toNatClampNeg))) + (4 : Int32)) n22 ∧ Sp l m_Md_wantSign (d + 9) 0 0 [.ref 114, .int 59] sh0 (aw_uI (aw_uI (aw_uI S7 114 22 ((S7.1 114 22) - (1 : Int32))) r16 ((nI (2392 + 6 * s.N) + (4 : Int32) : Int32).toNatClampNeg) ((aw_uI S7 114 22 ((S7.1 114 22) - (1 : Int32))).1 r17 ((aw_uI S7 114 22 ((S7.1 114 22) - (1 : Int32))).1 114 22 : Int32).toNatClampNeg)) r16 ((((2392 : Int32) + ((6 : Int32) * ((aw_uI (aw_uI S7 114 22 ((S7.1 114 22) - (1 : Int32))) r16 ((nI (2392 + 6 * s.N) + (4 : Int32) : Int32).toNatClampNeg) ((aw_uI S7 114 22 ((S7.1 114 22) - (1 : Int32))).1 r17 ((aw_uI S7 114 22 ((S7.1 114 22) - (1 : Int32))).1 114 22 : Int32).toNatClampNeg)).1 r17 ((aw_uI (aw_uI S7 114 22 ((S7.1 114 22) - (1 : Int32))) r16 ((nI (2392 + 6 * s.N) + (4 : Int32) : Int32).toNatClampNeg) ((aw_uI S7 114 22 ((S7.1 114 22) - (1 : Int32))).1 r17 ((aw_uI S7 114 22 ((S7.1 114 22) - (1 : Int32))).1 114 22 : Int32).toNatClampNeg)).1 114 22 : Int32).toNatClampNeg))) + (4 : Int32) : Int32).toNatClampNeg) (nI s.N)) (gI sh0 (fun x27 S26 => ((x27 = 0 ∨ x27 = 1) ∧ P x27 S26))) := by
    refine ⟨115, hR7.at (by decide), 122, hR7.at (by decide), 3, rfl, ?_⟩
    have a1 : (aw_uI S7 114 22 (nI (s.D - 1))).1 114 22 = nI (s.D - 1) := by rw [uI_at, if_pos rfl, if_pos rfl]
    have a2 : (aw_uI S7 114 22 (nI (s.D - 1))).1 122 (s.D - 1) = nI (s.sk (s.D - 1)) := by rw [uI_ne _ _ _ (by decide)]; exact d122
    have c4 : (nI (2392 + 6 * s.N) + (4 : Int32) : Int32).toNatClampNeg = 2392 + 6 * s.N + 4 := by rw [show (4 : Int32) = nI 4 from rfl, nI_add, nI_clamp (by omega)]
    have cD : (nI (s.D - 1)).toNatClampNeg = s.D - 1 := nI_clamp (by omega)
    rw [e22, a1, cD, a2, c4]
    have a3 : (aw_uI (aw_uI S7 114 22 (nI (s.D - 1))) 115 (2392 + 6 * s.N + 4) (nI (s.sk (s.D - 1)))).1 114 22 = nI (s.D - 1) := by rw [uI_ne _ _ _ (by decide)]; exact a1
    have a4 : (aw_uI (aw_uI S7 114 22 (nI (s.D - 1))) 115 (2392 + 6 * s.N + 4) (nI (s.sk (s.D - 1)))).1 122 (s.D - 1) = nI (s.sk (s.D - 1)) := by rw [uI_ne _ _ _ (by decide)]; exact a2
    have m6 : (2392 : Int32) + (6 : Int32) * nI (s.sk (s.D - 1)) + 4 = nI (2392 + 6 * s.sk (s.D - 1) + 4) := by rw [show (6 : Int32) = nI 6 from rfl, pk_mul, show (2392 : Int32) = nI 2392 from rfl, nI_add, show (4 : Int32) = nI 4 from rfl, nI_add]
    rw [a3, cD, a4, m6, nI_clamp (by omega)]
    refine ⟨vp_in_nI (by omega) (by omega), 3864, rfl, ?_, vp_in_nI (by omega) (by omega), vp_in_nI (by omega) (by omega), ?_⟩
    · rw [show (4 : Int32) = nI 4 from rfl, nI_add]
      exact vp_in_nI (by omega) (by omega)
    · have F8 : FrI FmX S0 (aw_uI (aw_uI (aw_uI S7 114 22 (nI (s.D - 1))) 115 (2392 + 6 * s.N + 4) (nI (s.sk (s.D - 1)))) 115 (2392 + 6 * s.sk (s.D - 1) + 4) (nI s.N)) := ((f7.uI _ (by unfold FmX; omega)).uI _ (by unfold FmX; omega)).uI _ (by unfold FmX; omega)
      have T8 : TmG (aw_uI (aw_uI (aw_uI S7 114 22 (nI (s.D - 1))) 115 (2392 + 6 * s.N + 4) (nI (s.sk (s.D - 1)))) 115 (2392 + 6 * s.sk (s.D - 1) + 4) (nI s.N)) B L (tkF B L s.t.e) := ((T7.fr (T' := aw_uI S7 114 22 (nI (s.D - 1))) (fun j hj => by rw [uI_at, if_pos rfl, if_neg (by omega)]) (uI_ne _ _ _ (by decide)) rfl).c115 _).c115 _
      have c115 : ∀ j, (aw_uI (aw_uI (aw_uI S7 114 22 (nI (s.D - 1))) 115 (2392 + 6 * s.N + 4) (nI (s.sk (s.D - 1)))) 115 (2392 + 6 * s.sk (s.D - 1) + 4) (nI s.N)).1 115 j = if j = 2392 + 6 * s.sk (s.D - 1) + 4 then nI s.N else if j = 2392 + 6 * s.N + 4 then nI (s.sk (s.D - 1)) else S7.1 115 j := fun j => by
        rw [uI_at, if_pos rfl, uI_at, if_pos rfl, uI_ne _ _ _ (by decide)]
      have co : ∀ c j, c ≠ 115 → ¬ (c = 114 ∧ j = 22) → (aw_uI (aw_uI (aw_uI S7 114 22 (nI (s.D - 1))) 115 (2392 + 6 * s.N + 4) (nI (s.sk (s.D - 1)))) 115 (2392 + 6 * s.sk (s.D - 1) + 4) (nI s.N)).1 c j = S7.1 c j := fun c j q1 q2 => by
        rw [uI_ne _ _ _ q1, uI_ne _ _ _ q1, uI_at]
        by_cases y : c = 114
        · rw [if_pos y, if_neg (fun w => q2 ⟨y, w⟩), y]
        · rw [if_neg y]
      have c22 : (aw_uI (aw_uI (aw_uI S7 114 22 (nI (s.D - 1))) 115 (2392 + 6 * s.N + 4) (nI (s.sk (s.D - 1)))) 115 (2392 + 6 * s.sk (s.D - 1) + 4) (nI s.N)).1 114 22 = nI (s.D - 1) := by rw [uI_ne _ _ _ (by decide)]; exact a3
      generalize aw_uI (aw_uI (aw_uI S7 114 22 (nI (s.D - 1))) 115 (2392 + 6 * s.N + 4) (nI (s.sk (s.D - 1)))) 115 (2392 + 6 * s.sk (s.D - 1) + 4) (nI s.N) = W at F8 T8 c115 co c22
      refine sp_wantSign (α := FpS) T8 (fun f hsf S9 F9 M9 => ⟨Or.inl rfl, kk 0 S9 (Or.inl rfl) ?_⟩) (fun hsf S9 F9 T9 => ⟨Or.inr rfl, kk 1 S9 (Or.inr rfl) ?_⟩)
      · rw [hsf]
        exact ⟨rfl, F8.trans (F9.mono (fun _ _ q => Or.inl q)), M9⟩
      · rw [hsf]
        refine ⟨rfl, FmR.clo hB hD h (F8.trans (F9.mono (fun _ _ q => Or.inl q))) (fun c j q => ?_) T9 ?_ ?_ ?_ ?_ ?_ ?_⟩
        · rw [F9.1 c j (fun w => q (Or.inl w))]
          by_cases y : c = 115
          · rw [y, c115, if_neg (by omega), if_neg (by omega)]
            exact g1 115 j (by unfold FX at q ⊢; omega)
          · rw [co c j y (by omega)]
            exact g1 c j (by unfold FX at q ⊢; omega)
        · rw [FX.c115 F9, c115, if_neg (by omega), if_neg (by omega)]; exact g3
        · rw [FX.c115 F9, c115, if_neg (by omega), if_neg (by omega)]; exact g4
        · rw [FX.c115 F9, c115, if_neg (by omega), if_pos rfl]
        · rw [FX.c115 F9, c115, if_pos rfl]
        · rw [F9.1 114 22 (by unfold FX; omega)]; exact c22
        · rw [F9.1 114 23 (by unfold FX; omega), co 114 23 (by decide) (by decide)]; exact g5
  have ok : ∀ (X : Int32 → aw_S → Prop), X 1 S7 → Sp l m_Md_feastOrder (d + 9) 0 0 [.ref 114, .int 13, .int (nI (2392 + 6 * s.N))] sh0 S7 (gI sh0 X) := fun X hX => e_Md_feastOrder rfl ⟨fun _ => hX, fun y => absurd y (by decide), fun _ => hX, fun _ => hX, fun _ => hX, fun _ => hX, fun y => absurd y (by decide), fun y => absurd y (by decide), fun _ => hX, fun y => absurd y (by decide), fun y => absurd y (by decide)⟩
  exact ok _ ⟨fun _ => ⟨fun _ => ⟨fun y => absurd rfl y, fun _ => go⟩, fun y => absurd rfl y⟩, fun y => absurd y (by decide)⟩
theorem sp_feastStep {P : Int32 → aw_S → Prop} (hR : RefsOk S0.2.2) (hn : n ≤ 7) (h0 : S0.1 115 0 = nI n) (hnm : ∀ d, d < n → S0.2.1 116 d = lN (p8 (nm d)) ∧ okW (nm d)) (hB : FpB n s) (h : FmR S0 T B L s) (kk : ∀ x T', (x = 0 ∨ x = 1) → OutG S0 B L x T' (fstep B L n nm s) → P x T') : Sp l m_Md_feastStep (d + 10) 0 0 [.ref 114] sh0 T (gI sh0 P) := by
  obtain ⟨h1, h2, h3, h5, h6, h7⟩ := id h
  obtain ⟨x, c, w, -⟩ := id h2
  have hRT : RefsOk T.2.2 := by rw [h1.R]; exact hR
  have N60 := hB.n60
  have b1 := hB.1
  have b2 := hB.2.1
  have eN : T.1 115 (2213 : Int32).toNatClampNeg = nI s.N := h3.1
  have bad : ∀ k0 : Nat, fstep B L n nm s = .inl (blF k0 s.t) → Sp l m_Md_fails (d + 9) 0 0 [.ref 114, .int (nI k0)] sh0 T (gI sh0 (fun x3 S2 => ((x3 = 0 ∨ x3 = 1) ∧ P x3 S2))) := fun k0 e => sp_failsM (k0 := k0) h2 (fun S' F M => ⟨Or.inl rfl, kk 0 S' (Or.inl rfl) (by rw [e]; exact ⟨rfl, h1.trans (F.mono (fun _ _ q => Or.inl q)), M⟩)⟩)
  refine e_Md_feastStep rfl (sp_inWords x w c ⟨115, hRT.at (by decide), 3864, rfl, vp_in_nI (n := 2213) (by omega) (by omega), ?_⟩)
  rw [eN, show (6 : Int32) * nI s.N = nI (6 * s.N) by rw [show (6 : Int32) = nI 6 from rfl, pk_mul], show (2392 : Int32) = nI 2392 from rfl, nI_add]
  intro v7 hv7
  subst hv7
  cases hw : rwT B s.t with
  | none =>
    have e : fstep B L n nm s = .inl (blF 2 s.t) := by
      unfold fstep
      rw [hw]
    show ((-1 : Int32) = 11 → _) ∧ (¬ (-1 : Int32) = 11 → ((¬ (-1 : Int32) = 12 → _) ∧ ((-1 : Int32) = 12 → _)))
    refine ⟨fun y => absurd y (by decide), fun _ => ⟨fun _ => ?_, fun y => absurd y (by decide)⟩⟩
    refine s_Md_feastStep_44 rfl ⟨fun y => absurd y (by decide), fun _ => ⟨fun _ => ?_, fun y => absurd (by decide) y⟩⟩
    exact s_Md_feastStep_68 rfl ⟨fun _ => bad 2 e, fun y => absurd rfl y⟩
  | some i =>
    have hi := (rwT_lt hw).1
    obtain ⟨p1, p2, p3, p4⟩ := pm_s i hi
    have pi := (pc_ok i hi).2.2.1
    have is : ∀ m, m < 100 → (nI (pmN i) = nI m ↔ pmN i = m) := fun m hm => nI_inj (by omega) (by omega)
    by_cases hs : isStp i
    · have e : fstep B L n nm s = fbody B L n nm s i := by
        unfold fstep
        rw [hw]
        show (if i = 17 then _ else _) = _
        rw [if_neg (by unfold isStp at hs; omega)]
      unfold fbody at e
      have hs' : i = 4 ∨ i = 7 ∨ i = 8 ∨ i = 9 ∨ i = 10 ∨ i = 11 ∨ i = 16 ∨ i = 18 := hs
      rw [if_pos hs'] at e
      have n13 : ¬ nI (pmN i) = 13 := fun y => by
        have := (is 13 (by omega)).mp y
        omega
      have hp : pmN i = 3 ∨ (7 ≤ pmN i ∧ pmN i ≤ 14) := p1.mpr (by omega)
      have to68 : ∀ i4, AW l m_Md_feastStep (d + 10) 0 0 (gI sh0 P) 0 0 68 [.ref 114, .int (nI (pmN i)), .int (nI s.N), .int (nI (2392 + 6 * s.N)), .int i4, .int 1, .null] [] sh0 T → AW l m_Md_feastStep (d + 10) 0 0 (gI sh0 P) 0 0 44 [.ref 114, .int (nI (pmN i)), .int (nI s.N), .int (nI (2392 + 6 * s.N)), .int i4, .null, .null] [] sh0 T := by
        intro i4 hh
        refine s_Md_feastStep_44 rfl ⟨fun _ => hh, fun z => ⟨fun z2 => ?_, fun z2 => ⟨fun z3 => ?_, fun _ => hh⟩⟩⟩
        · have q1 : ¬ pmN i = 3 := fun y => z ((is 3 (by omega)).mpr y)
          have q2 := (nI_ltI (b := 7) (by omega) (by omega)).mp z2
          omega
        · have q1 : ¬ pmN i = 3 := fun y => z ((is 3 (by omega)).mpr y)
          have q2 := (nI_ltI (a := 14) (by omega) (by omega)).mp z3
          omega
      have c30 : T.1 114 23 = 30 ↔ ncN s.cd s.N = 30 := by rw [h6]; exact nI_inj (b := 30) (by omega) (by omega)
      have c3 : T.1 114 22 = 3 ↔ s.D = 3 := by rw [h5]; exact nI_inj (b := 3) (by omega) (by omega)
      have hc : (nI (2392 + 6 * s.N)).toNatClampNeg = 2392 + 6 * s.N := nI_clamp (by omega)
      have fT1 : FrI (fun c j => (c = 114 ∧ j = 23) ∨ (c = 115 ∧ j = 2392 + 6 * s.N)) T (aw_uI (aw_uI T 114 23 (nI (ncN s.cd s.N + 1))) 115 (2392 + 6 * s.N) (nI (pmN i))) := ((FrI.refl _ T).uI _ (Or.inl ⟨rfl, rfl⟩)).uI _ (Or.inr ⟨rfl, rfl⟩)
      have x23 : (aw_uI (aw_uI T 114 23 (nI (ncN s.cd s.N + 1))) 115 (2392 + 6 * s.N) (nI (pmN i))).1 114 23 = nI (ncN s.cd s.N + 1) := by rw [uI_ne _ _ _ (by decide), uI_at, if_pos rfl, if_pos rfl]
      have xv : (aw_uI (aw_uI T 114 23 (nI (ncN s.cd s.N + 1))) 115 (2392 + 6 * s.N) (nI (pmN i))).1 115 (2392 + 6 * s.N) = nI (pmN i) := by rw [uI_at, if_pos rfl, if_pos rfl]
      have plain : ¬ (i = 11 ∨ i = 16) → AW l m_Md_feastStep (d + 10) 0 0 (gI sh0 P) 0 0 44 [.ref 114, .int (nI (pmN i)), .int (nI s.N), .int (nI (2392 + 6 * s.N)), .int 0, .null, .null] [] sh0 T := by
        intro ho
        refine to68 0 (s_Md_feastStep_68 rfl ⟨fun y => absurd y (by decide), fun _ => ⟨fun _ => ⟨fun y => absurd y n13, fun _ => ⟨fun z => ⟨fun _ => ⟨fun _ => ⟨115, hRT.at (by decide), 3864, rfl, vp_in_nI (by omega) (by omega), ?_⟩, fun y => absurd y n13⟩, fun y => absurd rfl y⟩, fun z => bad 6 ?_⟩⟩, fun y => absurd y n13⟩⟩)
        · have q30 : ¬ ncN s.cd s.N = 30 := fun y => z (c30.mpr y)
          rw [if_neg q30, if_neg (fun y => ho y.1)] at e
          rw [h6, nI_1, hc]
          exact fm_step hs (Or.inr ⟨ho, rfl⟩) hR hn h0 hnm hB h (by omega) (fun y => absurd y ho) fT1 x23 xv e.symm kk
        · rw [if_pos (c30.mp z)] at e
          exact e
      have opens : (i = 11 ∨ i = 16) → AW l m_Md_feastStep (d + 10) 0 0 (gI sh0 P) 0 0 44 [.ref 114, .int (nI (pmN i)), .int (nI s.N), .int (nI (2392 + 6 * s.N)), .int 1, .null, .null] [] sh0 T := by
        intro ho
        refine to68 1 (s_Md_feastStep_68 rfl ⟨fun y => absurd y (by decide), fun _ => ⟨fun _ => ⟨fun y => absurd y n13, fun _ => ⟨fun z => ⟨fun y => absurd y (by decide), fun _ => ⟨fun z3 => ⟨fun _ => ⟨115, hRT.at (by decide), 3864, rfl, vp_in_nI (by omega) (by omega), ?_⟩, fun y => absurd y n13⟩, fun z3 => bad 7 ?_⟩⟩, fun z => bad 6 ?_⟩⟩, fun y => absurd y n13⟩⟩)
        · have q30 : ¬ ncN s.cd s.N = 30 := fun y => z (c30.mpr y)
          have q3 : ¬ s.D = 3 := fun y => z3 (c3.mpr y)
          rw [if_neg q30, if_neg (fun y => q3 y.2)] at e
          rw [h6, nI_1, hc]
          exact fm_step hs (Or.inl ⟨ho, rfl⟩) hR hn h0 hnm hB h (by omega) (fun y => by omega) fT1 x23 xv e.symm kk
        · have q30 : ¬ ncN s.cd s.N = 30 := fun y => z (c30.mpr y)
          rw [if_neg q30, if_pos ⟨ho, c3.mp z3⟩] at e
          exact e
        · rw [if_pos (c30.mp z)] at e
          exact e
      show (nI (pmN i) = 11 → _) ∧ (¬ nI (pmN i) = 11 → ((¬ nI (pmN i) = 12 → _) ∧ (nI (pmN i) = 12 → _)))
      refine ⟨fun z => opens (Or.inl (p2.mp ((is 11 (by omega)).mp z))), fun z => ⟨fun z2 => plain (fun y => y.elim (fun y => z ((is 11 (by omega)).mpr (p2.mpr y))) (fun y => z2 ((is 12 (by omega)).mpr (p3.mpr y)))), fun z2 => opens (Or.inr (p3.mp ((is 12 (by omega)).mp z2)))⟩⟩
    · unfold isStp at hs
      by_cases h17 : i = 17
      · subst h17
        have e : fstep B L n nm s = if s.D = 0 then .inl (blF 2 s.t) else seK B L (tkF B L s.t.e) fun t' => .inr (cloS s t') := by
          unfold fstep
          rw [hw]
          rfl
        show ((13 : Int32) = 11 → _) ∧ (¬ (13 : Int32) = 11 → ((¬ (13 : Int32) = 12 → _) ∧ ((13 : Int32) = 12 → _)))
        refine ⟨fun y => absurd y (by decide), fun _ => ⟨fun _ => ?_, fun y => absurd y (by decide)⟩⟩
        refine s_Md_feastStep_44 rfl ⟨fun y => absurd y (by decide), fun _ => ⟨fun y => absurd y (by decide), fun _ => ⟨fun y => absurd y (by decide), fun _ => ?_⟩⟩⟩
        have c0 : T.1 114 22 = 0 ↔ s.D = 0 := by rw [h5]; exact nI_inj (b := 0) (by omega) (by omega)
        have hc : (nI (2392 + 6 * s.N)).toNatClampNeg = 2392 + 6 * s.N := nI_clamp (by omega)
        refine s_Md_feastStep_68 rfl ⟨fun y => absurd y (by decide), fun _ => ⟨fun y => absurd rfl y, fun _ => ⟨fun z => ⟨fun _ => ⟨fun _ => ⟨fun y => absurd rfl y, fun _ => ⟨115, hRT.at (by decide), 3864, rfl, vp_in_nI (by omega) (by omega), ?_⟩⟩, fun y => absurd rfl y⟩, fun y => absurd rfl y⟩, fun z => bad 2 ?_⟩⟩⟩
        · have D0 : ¬ s.D = 0 := fun y => z (c0.mpr y)
          rw [if_neg D0] at e
          rw [e] at kk
          rw [h6, show nI (ncN s.cd s.N) + (0 : Int32) = nI (ncN s.cd s.N) by rw [show (0 : Int32) = nI 0 from rfl, nI_add, Nat.add_zero], hc]
          exact fm_end hR hB h (by omega) (((FrI.refl _ T).uI _ (Or.inl ⟨rfl, rfl⟩)).uI _ (Or.inr ⟨rfl, rfl⟩)) (by rw [uI_ne _ _ _ (by decide), uI_at, if_pos rfl, if_pos rfl]) (by rw [uI_at, if_pos rfl, if_pos rfl]; rfl) kk
        · rw [if_pos (c0.mp z)] at e
          exact e
      · have e : fstep B L n nm s = .inl (blF 2 s.t) := by
          unfold fstep
          rw [hw]
          show (if i = 17 then _ else fbody B L n nm s i) = _
          rw [if_neg h17]
          unfold fbody
          rw [if_neg (by omega)]
        have hp : ¬ (pmN i = 3 ∨ (7 ≤ pmN i ∧ pmN i ≤ 14)) := fun y => by
          have := p1.mp y
          omega
        have f68 : AW l m_Md_feastStep (d + 10) 0 0 (gI sh0 P) 0 0 68 [.ref 114, .int (nI (pmN i)), .int (nI s.N), .int (nI (2392 + 6 * s.N)), .int 0, .int 0, .null] [] sh0 T := s_Md_feastStep_68 rfl ⟨fun _ => bad 2 e, fun y => absurd rfl y⟩
        show (nI (pmN i) = 11 → _) ∧ (¬ nI (pmN i) = 11 → ((¬ nI (pmN i) = 12 → _) ∧ (nI (pmN i) = 12 → _)))
        refine ⟨fun z => ?_, fun z => ⟨fun z2 => s_Md_feastStep_44 rfl ⟨fun y => ?_, fun _ => ⟨fun _ => f68, fun y => ⟨fun _ => f68, fun y2 => ?_⟩⟩⟩, fun z2 => ?_⟩⟩
        · have := (is 11 (by omega)).mp z
          omega
        · have := (is 3 (by omega)).mp y
          omega
        · exfalso
          have q1 : ¬ pmN i < 7 := fun q => y (nI_lt (b := 7) q (by omega))
          have q2 : ¬ 14 < pmN i := fun q => y2 (nI_lt (a := 14) q (by omega))
          omega
        · have := (is 12 (by omega)).mp z2
          omega
end FME
