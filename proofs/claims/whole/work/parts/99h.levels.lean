/-! the levels of the reference's rows -/
def RvX (lv k j : Nat) : Prop := (k = 115 ∧ (j < 184 ∨ lvA lv + 184 ≤ j)) ∨ (k = 132 ∧ lv ≤ j) ∨ k = 133 ∨ k = 134 ∨ (k = 114 ∧ j = 39)
theorem RvX.up {lv k j : Nat} (h : RvX (lv + 1) k j) : RvX lv k j := by
  unfold RvX lvA at *
  omega
section LR
variable {l : Launch} {d : Nat} {Q : aw_S → Prop} {t n : Nat} {G C : Nat → Nat}
/-- the head of the loop -/
abbrev RvH (l : Launch) (d : Nat) (Q : aw_S → Prop) (t n k lv : Nat) (S : aw_S) : Prop := AW l m_Md_laysRowsSeen (d + 1 + 1 + 1 + 1 + 1) 0 0 (gV sh0 Q) 0 0 59 [.ref 114, .int (nI t), .int (nI n), .int (nI k), .int (nI lv), .null] [] sh0 S
theorem lv_seen (ht : t < 4) (hn20 : n ≤ 20) {k : Nat} (hk : k ≤ 4) : ∀ (r lv : Nat) (S : aw_S) (g : GM) (R : Nat) (T : Nat → Nat → Nat), lv + r + 1 = k → RefsOk S.2.2 → bdG g → redN g.n g.f g.m → MdG S.1 (lvA lv) g → SeT S t n (gpN g.n) G C → S.1 132 lv = -1 → S.1 114 39 = nI R → R + rowsN (okM n G C) (r + 1) g < 2 ^ 20 → (∀ gap c, gap < gpN g.n → c ≤ 6 → S.1 134 (7 * gap + c) = nI (T gap c)) →
    (∀ U, FrI (RvX lv) S U → U.1 132 lv = nI (2 * gpN g.n) - 1 → XI (okM n G C) g lv (r + 1) R T 114 39 134 133 (S.1 132) (S.1 133) U.1 → RvH l d Q t n k lv U) → RvH l d Q t n k lv S := by
  intro r
  induction r with
  | zero =>
    intro lv S g R T hlv hR hb hr hM hT h132 h39 hR4 hta K
    have hn : g.n ≤ 7 := hb.1
    have hm : g.m ≤ 40 := hb.2.2.2.2.1
    have hgp := gp_le g.n
    have e2 : (2 : Int32) * nI (gpN g.n) = nI (2 * gpN g.n) := by rw [show (2 : Int32) = nI 2 from rfl, pk_mul]
    have key : ∀ j X U, X + j = 2 * gpN g.n → FrI (RvX lv) S U → (∀ i, i < lv → U.1 132 i = S.1 132 i) → U.1 132 lv = nI X - 1 → LI (okM n G C) g 0 lv R T X 114 39 134 133 (S.1 132) (S.1 133) U.1 → RvH l d Q t n k lv U := by
      intro j
      induction j with
      | zero =>
        intro X U hX F M h1 L
        have hX : X = 2 * gpN g.n := hX
        subst hX
        exact K U F h1 L.fin
      | succ j ihj =>
        intro X U hX F M h1 L
        have hRU : RefsOk U.2.2 := by rw [F.R]; exact hR
        obtain ⟨cb, cr, cn⟩ := ch_n (x := X) hb hr (by omega)
        refine s_Md_laysRowsSeen_59 rfl ⟨fun q => absurd q (nI_pos (by omega)), fun _ => sp_lvA (sp_Md_restores hRU (by unfold lvA; omega) (by unfold lvA; omega) (fun S3 F3 V3 => ⟨132, by rw [F3.R]; exact hRU.at (by decide), 5, rfl, vp_in_nI (by omega) (by omega), vp_in_nI (by omega) (by omega), vp_in_nI (by omega) (by omega), fun v10 hv => ?_⟩))⟩
        have e3 : S3.1 132 lv + 1 = nI X := by rw [F3.1 132 lv (by omega), h1, Int32.sub_add_cancel]
        rw [nI_clamp (by omega), e3] at hv ⊢
        rw [uI_at, if_pos rfl, if_pos rfl] at hv
        subst hv
        have FU : FrI (fun a j => (a = 115 ∧ j < 184) ∨ (a = 132 ∧ j = lv)) U (aw_uI S3 132 lv (nI X)) := (F3.mono (fun k j q => Or.inl q)).uI _ (Or.inr ⟨rfl, rfl⟩)
        have MU : MdG (aw_uI S3 132 lv (nI X)).1 0 g := hM.mv hn hm (fun j hj => by
          rw [uI_ne _ _ _ (by omega), Nat.zero_add, V3 j hj]
          exact F.1 115 _ (by unfold RvX lvA; omega))
        have U1 : (aw_uI S3 132 lv (nI X)).1 132 lv = nI X := by rw [uI_at, if_pos rfl, if_pos rfl]
        revert FU MU U1
        generalize aw_uI S3 132 lv (nI X) = W
        intro FU MU U1
        have hMW : MdS sh0 W.2.2 := MdS.mk0 (by rw [FU.R]; exact hRU)
        refine sp_Md_gapsOf (s := 0) hMW (by omega) hn MU.1 ?_
        rw [e2]
        refine ⟨fun _ => ?_, fun q => absurd ((nI_inj (by omega) (by omega)).mp q) (by omega)⟩
        rw [md_half X (by omega), md_rest X (by omega)]
        refine sp_dancesX hMW hb MU (by omega) (fun Y FY MY => ?_)
        have fY : ∀ a i, ¬ (a = 115 ∧ i < 184) → Y.1 a i = W.1 a i := fun a i q => FY.1 a i (by unfold MX; omega)
        have gY : ∀ a i, ¬ ((a = 115 ∧ i < 184) ∨ (a = 132 ∧ i = lv)) → Y.1 a i = U.1 a i := fun a i q => (fY a i (by omega)).trans (FU.1 a i (by omega))
        have LY : LI (okM n G C) g 0 lv R T X 114 39 134 133 (S.1 132) (S.1 133) Y.1 := by
          obtain ⟨a1, a2, a3, a4⟩ := L
          refine ⟨by rw [gY 114 39 (by omega)]; exact a1, fun gap c hg hc => by rw [gY 134 _ (by omega)]; exact a2 gap c hg hc, fun q j => by rw [gY 133 j (by omega)]; exact a3 q j, fun q1 q2 => ?_⟩
          obtain ⟨x0, p, c1, c2, c3, c4, c5, c6, c7, c8⟩ := a4 q1 q2
          exact ⟨x0, p, c1, c2, c3, c4, c5, fun i hi => by rw [gY 133 i (by omega)]; exact c6 i hi, by rw [gY 133 lv (by omega)]; exact c7, fun i hi => absurd hi (Nat.not_lt_zero i)⟩
        have FFY : FrI (RvX lv) S Y := F.trans ((FU.mono (fun a i q => by unfold RvX; omega)).trans (FY.mono (fun a i q => by unfold MX at q; unfold RvX; omega)))
        have YM : (∀ i, i < lv → Y.1 132 i = S.1 132 i) ∧ Y.1 132 lv = nI X := ⟨fun i hi => (gY 132 i (by omega)).trans (M i hi), (fY 132 lv (by omega)).trans U1⟩
        have nz : nI (chG g X).1 = 0 ↔ (chG g X).1 = 0 := by
          have := (ps_ok hb hr (show X / 2 < gpN g.n by omega) (show X % 2 < 2 by omega)).2.2.2.1
          rw [ch_lt (by omega)]
          exact nI_inj (b := 0) (by omega) (by omega)
        refine ⟨fun z => ?_, fun z => ihj (X + 1) Y (by omega) FFY YM.1 (by rw [YM.2, nI_pr]) (LY.s0 (nz.mp z))⟩
        have hf : (chG g X).1 ≠ 0 := fun q => z (nz.mpr q)
        rw [nI_1]
        refine ⟨fun q => absurd (by rw [show lv + 1 = k by omega]) q, fun _ => ?_⟩
        have bnd : R + sumF (rwF (okM n G C) 0 g) X < 2 ^ 20 := by
          have m1 := sum_mono (f := rwF (okM n G C) 0 g) (X := X) (Y := 2 * gpN g.n) (by omega)
          rw [rows_s] at hR4
          omega
        have hRY : RefsOk Y.2.2 := by rw [FFY.R]; exact hR
        have eT : SeT Y t n (gpN (chG g X).2.n) G C := by
          rw [cn]
          refine ⟨hT.1, fun i hi => ?_⟩
          rw [FFY.L]
          exact hT.2 i hi
        refine sp_counts (g := (chG g X).2) (R := R + sumF (rwF (okM n G C) 0 g) X) (T := fun gap c => T gap c + sumF (tbF (okM n G C) gap c 0 g) X) ht hn20 hk hRY cb MY eT LY.1 bnd (fun gap c hg hc => LY.2.1 gap c (by rw [← cn]; exact hg) hc) (fun Z FZ XZ => ?_)
        have hkl : k = lv + 1 := by omega
        rw [hkl] at XZ
        refine ihj (X + 1) Z (by omega) (FFY.trans (FZ.mono (fun a i q => by unfold RvX; omega))) (fun i hi => ?_) ?_ (LY.s1 hf cn YM (fun j => rfl) XZ)
        · rw [FZ.1 132 i (by omega)]; exact YM.1 i hi
        · rw [FZ.1 132 lv (by omega), YM.2, nI_pr]
    exact key _ 0 S (Nat.zero_add _) (FrI.refl _ _) (fun _ _ => rfl) (by rw [h132]; rfl) (LI.beg h39 hta (fun _ => rfl))
  | succ r ih =>
    intro lv S g R T hlv hR hb hr hM hT h132 h39 hR4 hta K
    have hn : g.n ≤ 7 := hb.1
    have hm : g.m ≤ 40 := hb.2.2.2.2.1
    have hgp := gp_le g.n
    have e2 : (2 : Int32) * nI (gpN g.n) = nI (2 * gpN g.n) := by rw [show (2 : Int32) = nI 2 from rfl, pk_mul]
    have key : ∀ j X U, X + j = 2 * gpN g.n → FrI (RvX lv) S U → (∀ i, i < lv → U.1 132 i = S.1 132 i) → U.1 132 lv = nI X - 1 → LI (okM n G C) g (r + 1) lv R T X 114 39 134 133 (S.1 132) (S.1 133) U.1 → RvH l d Q t n k lv U := by
      intro j
      induction j with
      | zero =>
        intro X U hX F M h1 L
        have hX : X = 2 * gpN g.n := hX
        subst hX
        exact K U F h1 L.fin
      | succ j ihj =>
        intro X U hX F M h1 L
        have hRU : RefsOk U.2.2 := by rw [F.R]; exact hR
        obtain ⟨cb, cr, cn⟩ := ch_n (x := X) hb hr (by omega)
        have cm : (chG g X).2.m ≤ 40 := cb.2.2.2.2.1
        refine s_Md_laysRowsSeen_59 rfl ⟨fun q => absurd q (nI_pos (by omega)), fun _ => sp_lvA (sp_Md_restores hRU (by unfold lvA; omega) (by unfold lvA; omega) (fun S3 F3 V3 => ⟨132, by rw [F3.R]; exact hRU.at (by decide), 5, rfl, vp_in_nI (by omega) (by omega), vp_in_nI (by omega) (by omega), vp_in_nI (by omega) (by omega), fun v10 hv => ?_⟩))⟩
        have e3 : S3.1 132 lv + 1 = nI X := by rw [F3.1 132 lv (by omega), h1, Int32.sub_add_cancel]
        rw [nI_clamp (by omega), e3] at hv ⊢
        rw [uI_at, if_pos rfl, if_pos rfl] at hv
        subst hv
        have FU : FrI (fun a j => (a = 115 ∧ j < 184) ∨ (a = 132 ∧ j = lv)) U (aw_uI S3 132 lv (nI X)) := (F3.mono (fun k j q => Or.inl q)).uI _ (Or.inr ⟨rfl, rfl⟩)
        have MU : MdG (aw_uI S3 132 lv (nI X)).1 0 g := hM.mv hn hm (fun j hj => by
          rw [uI_ne _ _ _ (by omega), Nat.zero_add, V3 j hj]
          exact F.1 115 _ (by unfold RvX lvA; omega))
        have U1 : (aw_uI S3 132 lv (nI X)).1 132 lv = nI X := by rw [uI_at, if_pos rfl, if_pos rfl]
        revert FU MU U1
        generalize aw_uI S3 132 lv (nI X) = W
        intro FU MU U1
        have hMW : MdS sh0 W.2.2 := MdS.mk0 (by rw [FU.R]; exact hRU)
        refine sp_Md_gapsOf (s := 0) hMW (by omega) hn MU.1 ?_
        rw [e2]
        refine ⟨fun _ => ?_, fun q => absurd ((nI_inj (by omega) (by omega)).mp q) (by omega)⟩
        rw [md_half X (by omega), md_rest X (by omega)]
        refine sp_dancesX hMW hb MU (by omega) (fun Y FY MY => ?_)
        have fY : ∀ a i, ¬ (a = 115 ∧ i < 184) → Y.1 a i = W.1 a i := fun a i q => FY.1 a i (by unfold MX; omega)
        have gY : ∀ a i, ¬ ((a = 115 ∧ i < 184) ∨ (a = 132 ∧ i = lv)) → Y.1 a i = U.1 a i := fun a i q => (fY a i (by omega)).trans (FU.1 a i (by omega))
        have LY : LI (okM n G C) g (r + 1) lv R T X 114 39 134 133 (S.1 132) (S.1 133) Y.1 := by
          obtain ⟨a1, a2, a3, a4⟩ := L
          refine ⟨by rw [gY 114 39 (by omega)]; exact a1, fun gap c hg hc => by rw [gY 134 _ (by omega)]; exact a2 gap c hg hc, fun q j => by rw [gY 133 j (by omega)]; exact a3 q j, fun q1 q2 => ?_⟩
          obtain ⟨x0, p, c1, c2, c3, c4, c5, c6, c7, c8⟩ := a4 q1 q2
          exact ⟨x0, p, c1, c2, c3, c4, c5, fun i hi => by rw [gY 133 i (by omega)]; exact c6 i hi, by rw [gY 133 lv (by omega)]; exact c7, fun i hi => by rw [gY 133 _ (by omega)]; exact c8 i hi⟩
        have FFY : FrI (RvX lv) S Y := F.trans ((FU.mono (fun a i q => by unfold RvX; omega)).trans (FY.mono (fun a i q => by unfold MX at q; unfold RvX; omega)))
        have YM : (∀ i, i < lv → Y.1 132 i = S.1 132 i) ∧ Y.1 132 lv = nI X := ⟨fun i hi => (gY 132 i (by omega)).trans (M i hi), (fY 132 lv (by omega)).trans U1⟩
        have nz : nI (chG g X).1 = 0 ↔ (chG g X).1 = 0 := by
          have := (ps_ok hb hr (show X / 2 < gpN g.n by omega) (show X % 2 < 2 by omega)).2.2.2.1
          rw [ch_lt (by omega)]
          exact nI_inj (b := 0) (by omega) (by omega)
        refine ⟨fun z => ?_, fun z => ihj (X + 1) Y (by omega) FFY YM.1 (by rw [YM.2, nI_pr]) (LY.s0 (nz.mp z))⟩
        have hf : (chG g X).1 ≠ 0 := fun q => z (nz.mpr q)
        rw [nI_1]
        have hRY : RefsOk Y.2.2 := by rw [FFY.R]; exact hR
        refine ⟨fun _ => ⟨132, hRY.at (by decide), 5, rfl, vp_in_nI (by omega) (by omega), ?_⟩, fun q => absurd ((nI_inj (by omega) (by omega)).mp q) (by omega)⟩
        rw [nI_clamp (by omega)]
        refine sp_lvA (sp_Md_keeps (by rw [uI_R]; exact hRY) (by unfold lvA; omega) (by unfold lvA; omega) (fun S5 F5 V5 => ?_))
        have bnd : R + sumF (rwF (okM n G C) (r + 1) g) X + rowsN (okM n G C) (r + 1) (chG g X).2 < 2 ^ 20 := by
          have m1 := sum_mono (f := rwF (okM n G C) (r + 1) g) (X := X + 1) (Y := 2 * gpN g.n) (by omega)
          have m2 : sumF (rwF (okM n G C) (r + 1) g) (X + 1) = sumF (rwF (okM n G C) (r + 1) g) X + rowsN (okM n G C) (r + 1) (chG g X).2 := by
            rw [sum_s]
            show _ + (if (chG g X).1 = 0 then 0 else rowsN (okM n G C) (r + 1) (chG g X).2) = _
            rw [if_neg hf]
          rw [rows_s] at hR4
          omega
        have f5 : ∀ a i, ¬ ((a = 115 ∧ lvA (lv + 1) ≤ i ∧ i < lvA (lv + 1) + 184) ∨ (a = 132 ∧ i = lv + 1)) → S5.1 a i = Y.1 a i := fun a i q => by
          rw [F5.1 a i (by omega), uI_at]
          by_cases e : a = 132
          · rw [if_pos e, if_neg (by omega), e]
          · rw [if_neg e]
        have h5 : S5.1 132 (lv + 1) = -1 := by rw [F5.1 132 _ (by omega), uI_at, if_pos rfl, if_pos rfl]
        have hR5 : RefsOk S5.2.2 := by rw [F5.R, uI_R]; exact hRY
        have M5 : MdG S5.1 (lvA (lv + 1)) (chG g X).2 := MY.mv (by omega) cm (fun j hj => by rw [Nat.zero_add, V5 j hj, uI_ne _ _ _ (by omega)])
        have F5' : FrI (RvX lv) S S5 := FFY.trans ⟨fun a i q => f5 a i (by unfold RvX lvA at q; unfold lvA; omega), F5.2⟩
        have T5 : SeT S5 t n (gpN (chG g X).2.n) G C := by
          rw [cn]
          refine ⟨hT.1, fun i hi => ?_⟩
          rw [F5'.L]
          exact hT.2 i hi
        refine ih (lv + 1) S5 (chG g X).2 (R + sumF (rwF (okM n G C) (r + 1) g) X) (fun gap c => T gap c + sumF (tbF (okM n G C) gap c (r + 1) g) X) (by omega) hR5 cb cr M5 T5 h5 ?_ bnd (fun gap c hg hc => ?_) (fun S6 F6 y1 X6 => ?_)
        · rw [f5 114 39 (by omega)]; exact LY.1
        · rw [f5 134 _ (by omega)]; exact LY.2.1 gap c (by rw [← cn]; exact hg) hc
        · rw [cn] at y1
          have hR6 : RefsOk S6.2.2 := by rw [F6.R]; exact hR5
          refine s_Md_laysRowsSeen_59 rfl ⟨fun q => absurd q (nI_pos (by omega)), fun _ => sp_lvA (sp_Md_restores hR6 (by unfold lvA; omega) (by unfold lvA; omega) (fun S7 F7 V7 => ⟨132, by rw [F7.R]; exact hR6.at (by decide), 5, rfl, vp_in_nI (by omega) (by omega), vp_in_nI (by omega) (by omega), vp_in_nI (by omega) (by omega), fun v10 hv => ?_⟩))⟩
          have e8 : S7.1 132 (lv + 1) + 1 = nI (2 * gpN g.n) := by rw [F7.1 132 (lv + 1) (by omega), y1, Int32.sub_add_cancel]
          rw [nI_clamp (by omega), e8] at hv ⊢
          rw [uI_at, if_pos rfl, if_pos rfl] at hv
          subst hv
          have n8 : (aw_uI S7 132 (lv + 1) (nI (2 * gpN g.n))).1 115 0 = nI g.n := by
            rw [uI_ne _ _ _ (by omega), V7 0 (by omega), F6.1 115 _ (by unfold RvX lvA; omega), V5 0 (by omega), uI_ne _ _ _ (by omega), ← cn]
            exact MY.1
          have F8 : FrI (fun a i => (a = 115 ∧ i < 184) ∨ (a = 132 ∧ i = lv + 1)) S6 (aw_uI S7 132 (lv + 1) (nI (2 * gpN g.n))) := (F7.mono (fun a i q => Or.inl q)).uI _ (Or.inr ⟨rfl, rfl⟩)
          revert n8 F8
          generalize aw_uI S7 132 (lv + 1) (nI (2 * gpN g.n)) = V
          intro n8 F8
          have hRV : RefsOk V.2.2 := by rw [F8.R]; exact hR6
          refine sp_Md_gapsOf (s := 0) (MdS.mk0 hRV) (by omega) hn n8 ?_
          rw [e2]
          refine ⟨fun q => absurd rfl q, fun _ => ?_⟩
          rw [nI_mm, nI_pr]
          have c8 : ∀ a i, ¬ ((a = 115 ∧ i < 184) ∨ (a = 132 ∧ i = lv + 1)) → V.1 a i = S6.1 a i := fun a i q => F8.1 a i q
          refine ihj (X + 1) V (by omega) ((F5'.trans (F6.mono (fun a i q => q.up))).trans (F8.mono (fun a i q => by unfold RvX; omega))) (fun i hi => ?_) ?_ (LY.s1 (pr' := S5.1 132) (f1 := S5.1 133) hf cn ⟨fun i hi => ?_, ?_⟩ (fun j => f5 133 j (by omega)) ?_)
          · rw [c8 132 i (by omega), F6.1 132 i (by unfold RvX; omega), f5 132 i (by omega)]; exact YM.1 i hi
          · rw [c8 132 lv (by omega), F6.1 132 lv (by unfold RvX; omega), f5 132 lv (by omega), YM.2, nI_pr]
          · rw [f5 132 i (by omega)]; exact YM.1 i hi
          · rw [f5 132 lv (by omega)]; exact YM.2
          · obtain ⟨a1, a2, a3, a4⟩ := X6
            refine ⟨by rw [c8 114 39 (by omega)]; exact a1, fun gap c hg hc => by rw [c8 134 _ (by omega)]; exact a2 gap c hg hc, fun q j => by rw [c8 133 j (by omega)]; exact a3 q j, fun z1 z2 => ?_⟩
            obtain ⟨p, b1, b2, b3⟩ := a4 z1 z2
            exact ⟨p, b1, fun i hi => by rw [c8 133 i (by omega)]; exact b2 i hi, fun i hi => by rw [c8 133 _ (by omega)]; exact b3 i hi⟩
    exact key _ 0 S (Nat.zero_add _) (FrI.refl _ _) (fun _ _ => rfl) (by rw [h132]; rfl) (LI.beg h39 hta (fun _ => rfl))
end LR
