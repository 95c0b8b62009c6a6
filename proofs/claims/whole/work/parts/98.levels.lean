/-! the levels of the reference's game -/
theorem LvX.up {lv k j : Nat} (h : LvX (lv + 1) k j) : LvX lv k j := by
  unfold LvX lvA at *
  omega
theorem md_half : ∀ X, X < 20 → nI X / 2 = nI (X / 2) := by decide +kernel
theorem md_rest : ∀ X, X < 20 → nI X - nI (X / 2) * 2 = nI (X % 2) := by decide +kernel
theorem lv_loop {l : Launch} {d T t lv : Nat} {Q : Int32 → aw_S → Prop} {S : aw_S} {g : GM} (hT : T ≤ 3) (hlv : lv + t + 1 = T) (hR : RefsOk S.2.2) (hb : bdG g) (hr : redN g.n g.f g.m) (hM : MdG S.1 (lvA lv) g) (h132 : S.1 132 lv = -1) (h136 : S.1 136 lv = -1)
    (A : ∀ X W, X ≤ 2 * gpN g.n → FrI (LvX lv) S W → MdG W.1 0 (chG g X).2 → W.1 132 lv = nI X → (chG g X).1 ≠ 0 → PB t (decide (lv % 2 = 0)) g X (W.1 136 lv) (W.1 135 lv) → (∀ S5, FrI (LvX lv) S S5 → S5.1 132 lv = nI X → PB t (decide (lv % 2 = 0)) g (X + 1) (S5.1 136 lv) (S5.1 135 lv) → AW l m_Md_playing (d + 1 + 1 + 1 + 1 + 1) 0 0 (gI sh0 Q) 0 0 16 [.ref 114, .int (nI T), .int (nI lv), .null] [] sh0 S5) → ((¬ (nI lv + (1 : Int32)) = nI T → Sp l m_Md_beginsAt (d + 1 + 1 + 1 + 1) 0 0 [.ref 114, .int (nI lv + 1)] sh0 W (gV sh0 (fun S18 => AW l m_Md_playing (d + 1 + 1 + 1 + 1 + 1) 0 0 (gI sh0 Q) 0 0 16 [.ref 114, .int (nI T), .int (nI lv + 1), .null] [] sh0 S18))) ∧ ((nI lv + (1 : Int32)) = nI T → Sp l m_Md_howManyShow (d + 1 + 1 + 1 + 1) 0 0 [.ref 114] sh0 W (gI sh0 (fun x20 S19 => Sp l m_Md_settles (d + 1 + 1 + 1 + 1) 0 0 [.ref 114, .int (nI lv), .int x20] sh0 S19 (gV sh0 (fun S21 => AW l m_Md_playing (d + 1 + 1 + 1 + 1 + 1) 0 0 (gI sh0 Q) 0 0 16 [.ref 114, .int (nI T), .int (nI lv), .null] [] sh0 S21)))))))
    (K : ∀ S' v x, FrI (LvX lv) S S' → S'.1 132 lv = nI (2 * gpN g.n) → S'.1 135 lv = nI v → S'.1 136 lv = nI x → bestR t (decide (lv % 2 = 0)) g (2 * gpN g.n + 1) v x → AW l m_Md_playing (d + 1 + 1 + 1 + 1 + 1) 0 0 (gI sh0 Q) 0 0 16 [.ref 114, .int (nI T), .int (nI lv), .null] [] sh0 S') :
    AW l m_Md_playing (d + 1 + 1 + 1 + 1 + 1) 0 0 (gI sh0 Q) 0 0 16 [.ref 114, .int (nI T), .int (nI lv), .null] [] sh0 S := by
  have nxt : ∀ X, X ≤ 2 * gpN g.n → ∀ {j : Nat}, (∀ Y S', Y + j = 2 * gpN g.n + 1 → FrI (LvX lv) S S' → S'.1 132 lv = nI Y - 1 → PB t (decide (lv % 2 = 0)) g Y (S'.1 136 lv) (S'.1 135 lv) → AW l m_Md_playing (d + 1 + 1 + 1 + 1 + 1) 0 0 (gI sh0 Q) 0 0 16 [.ref 114, .int (nI T), .int (nI lv), .null] [] sh0 S') → X + (j + 1) = 2 * gpN g.n + 1 → ∀ S5, FrI (LvX lv) S S5 → S5.1 132 lv = nI X → PB t (decide (lv % 2 = 0)) g (X + 1) (S5.1 136 lv) (S5.1 135 lv) → AW l m_Md_playing (d + 1 + 1 + 1 + 1 + 1) 0 0 (gI sh0 Q) 0 0 16 [.ref 114, .int (nI T), .int (nI lv), .null] [] sh0 S5 := fun X hX j ih hj S5 F5 e P5 => ih (X + 1) S5 (by omega) F5 (by rw [e, nI_pr]) P5
  have hn : g.n ≤ 7 := hb.1
  have hm : g.m ≤ 40 := hb.2.2.2.2.1
  have hgp := gp_le g.n
  have e2 : (2 : Int32) * nI (gpN g.n) = nI (2 * gpN g.n) := by rw [show (2 : Int32) = nI 2 from rfl, pk_mul]
  have key : ∀ j X S', X + j = 2 * gpN g.n + 1 → FrI (LvX lv) S S' → S'.1 132 lv = nI X - 1 → PB t (decide (lv % 2 = 0)) g X (S'.1 136 lv) (S'.1 135 lv) → AW l m_Md_playing (d + 1 + 1 + 1 + 1 + 1) 0 0 (gI sh0 Q) 0 0 16 [.ref 114, .int (nI T), .int (nI lv), .null] [] sh0 S' := by
    intro j
    induction j with
    | zero =>
      intro X S' hX F h1 h2
      have hX : X = 2 * gpN g.n + 1 := hX
      subst hX
      rcases h2 with ⟨-, h2⟩ | ⟨v, x, h3, h4, h5⟩
      · exact absurd (h2 (2 * gpN g.n) (by omega)) (by rw [ch_no]; exact (by decide : (1 : Nat) ≠ 0))
      · exact K S' v x F (h1.trans (nI_pr _)) h3 h4 h5
    | succ j ihj =>
      intro X S' hX F h1 h2
      have hR' : RefsOk S'.2.2 := by rw [F.R]; exact hR
      obtain ⟨cb, cr, cn⟩ := ch_n (x := X) hb hr (by omega)
      refine s_Md_playing_16 rfl (sp_lvA (sp_Md_restores hR' (by unfold lvA; omega) (by unfold lvA; omega) (fun S3 F3 V3 => ⟨132, by rw [F3.R]; exact hR'.at (by decide), 5, rfl, vp_in_nI (by omega) (by omega), vp_in_nI (by omega) (by omega), vp_in_nI (by omega) (by omega), fun v10 hv => ?_⟩)))
      have e3 : S3.1 132 lv + 1 = nI X := by rw [F3.1 132 lv (by omega), h1, Int32.sub_add_cancel]
      rw [nI_clamp (by omega), e3] at hv ⊢
      rw [uI_at, if_pos rfl, if_pos rfl] at hv
      subst hv
      have FU : FrI (LvX lv) S (aw_uI S3 132 lv (nI X)) := (F.trans (F3.mono (fun k j q => by unfold LvX; omega))).uI _ (Or.inr ⟨Or.inl rfl, Nat.le_refl _⟩)
      have MU : MdG (aw_uI S3 132 lv (nI X)).1 0 g := hM.mv hn hm (fun j hj => by
        rw [uI_ne _ _ _ (by omega), Nat.zero_add, V3 j hj]
        exact F.1 115 _ (by unfold LvX lvA; omega))
      have U1 : (aw_uI S3 132 lv (nI X)).1 132 lv = nI X := by rw [uI_at, if_pos rfl, if_pos rfl]
      have U2 : PB t (decide (lv % 2 = 0)) g X ((aw_uI S3 132 lv (nI X)).1 136 lv) ((aw_uI S3 132 lv (nI X)).1 135 lv) := by
        rw [uI_ne _ _ _ (by omega), uI_ne _ _ _ (by omega), F3.1 136 lv (by omega), F3.1 135 lv (by omega)]
        exact h2
      revert FU MU U1 U2
      generalize aw_uI S3 132 lv (nI X) = U
      intro FU MU U1 U2
      have hMU : MdS sh0 U.2.2 := MdS.mk0 (by rw [FU.R]; exact hR)
      refine sp_Md_gapsOf (s := 0) hMU (by omega) hn MU.1 ?_
      rw [e2]
      refine ⟨fun _ => sp_Md_gapsOf (s := 0) hMU (by omega) hn MU.1 ?_, fun q => absurd (nI_le (by omega) (by omega)) q⟩
      rw [e2]
      refine ⟨fun q => ?_, fun q => ?_⟩
      · have eX : X = 2 * gpN g.n := by
          have := (nI_leI (by omega) (by omega)).mp q
          omega
        refine A X U (by omega) FU ?_ U1 ?_ U2 (nxt X (by omega) ihj hX)
        · rw [eX, ch_no]; exact MU
        · rw [eX, ch_no]; exact (by decide : (1 : Nat) ≠ 0)
      · have hX2 : X < 2 * gpN g.n := by
          have : ¬ 2 * gpN g.n ≤ X := fun z => q (nI_le z (by omega))
          omega
        rw [md_half X (by omega), md_rest X (by omega)]
        refine sp_dancesX hMU hb MU hX2 (fun W FW MW => ?_)
        have FW2 : FrI (LvX lv) S W := FU.trans (FW.mono (fun k j q => by unfold MX at q; unfold LvX; omega))
        refine ⟨fun z => A X W (by omega) FW2 MW ?_ (fun z2 => z (by rw [z2]; rfl)) ?_ (nxt X (by omega) ihj hX), fun z => ?_⟩
        · rw [FW.1 132 lv (by unfold MX; omega)]; exact U1
        · rw [FW.1 136 lv (by unfold MX; omega), FW.1 135 lv (by unfold MX; omega)]; exact U2
        · have z0 : (chG g X).1 = 0 := by
            have := (ps_ok hb hr (show X / 2 < gpN g.n by omega) (show X % 2 < 2 by omega)).2.2.2.1
            rw [ch_lt hX2] at z ⊢
            exact (nI_inj (b := 0) (by omega) (by omega)).mp z
          refine ihj (X + 1) W (by omega) FW2 ?_ ?_
          · rw [FW.1 132 lv (by unfold MX; omega), U1, nI_pr]
          · rw [FW.1 136 lv (by unfold MX; omega), FW.1 135 lv (by unfold MX; omega)]
            exact U2.s0 z0
  exact key (2 * gpN g.n + 1) 0 S (by omega) (FrI.refl _ _) (by rw [h132]; rfl) (Or.inl ⟨h136, fun y hy => absurd hy (Nat.not_lt_zero y)⟩)
theorem lv_play {l : Launch} {d T : Nat} {Q : Int32 → aw_S → Prop} (hT : T ≤ 3) : ∀ (t lv : Nat) (S : aw_S) (g : GM), lv + t + 1 = T → RefsOk S.2.2 → bdG g → redN g.n g.f g.m → MdG S.1 (lvA lv) g → S.1 132 lv = -1 → S.1 136 lv = -1 →
    (∀ S' v x, FrI (LvX lv) S S' → S'.1 132 lv = nI (2 * gpN g.n) → S'.1 135 lv = nI v → S'.1 136 lv = nI x → bestR t (decide (lv % 2 = 0)) g (2 * gpN g.n + 1) v x → AW l m_Md_playing (d + 1 + 1 + 1 + 1 + 1) 0 0 (gI sh0 Q) 0 0 16 [.ref 114, .int (nI T), .int (nI lv), .null] [] sh0 S') →
    AW l m_Md_playing (d + 1 + 1 + 1 + 1 + 1) 0 0 (gI sh0 Q) 0 0 16 [.ref 114, .int (nI T), .int (nI lv), .null] [] sh0 S := by
  intro t
  induction t with
  | zero =>
    intro lv S g hlv hR hb hr hM h132 h136 K
    refine lv_loop (t := 0) hT hlv hR hb hr hM h132 h136 (fun X W hX FW MW w1 hf w2 nx => ?_) K
    obtain ⟨cb, cr, cn⟩ := ch_n (x := X) hb hr hX
    have hn : g.n ≤ 7 := hb.1
    have hgp := gp_le g.n
    have hRW : RefsOk W.2.2 := by rw [FW.R]; exact hR
    rw [nI_1]
    refine ⟨fun q => absurd (by rw [show lv + 1 = T by omega]) q, fun _ => sp_Md_howManyShow (MdS.mk0 hRW) cb MW (fun w hw => ?_)⟩
    refine sp_settles (t := 0) (X := X) (c := decide (lv % 2 = 0)) (g := g) hRW (by omega) rfl hf (by omega) ⟨w, hw, rfl⟩ w1 w2 (fun S5 F5 P5 => nx S5 (FW.trans (F5.mono (fun k j q => by unfold LvX; omega))) ?_ P5)
    rw [F5.1 132 lv (by omega), w1]
  | succ t ih =>
    intro lv S g hlv hR hb hr hM h132 h136 K
    refine lv_loop hT hlv hR hb hr hM h132 h136 (fun X W hX FW MW w1 hf w2 nx => ?_) K
    obtain ⟨cb, cr, cn⟩ := ch_n (x := X) hb hr hX
    have hn : g.n ≤ 7 := hb.1
    have hm : (chG g X).2.m ≤ 40 := cb.2.2.2.2.1
    have hgp := gp_le g.n
    have e2 : (2 : Int32) * nI (gpN g.n) = nI (2 * gpN g.n) := by rw [show (2 : Int32) = nI 2 from rfl, pk_mul]
    have hRW : RefsOk W.2.2 := by rw [FW.R]; exact hR
    rw [nI_1]
    refine ⟨fun _ => sp_beginsAt hRW (by omega) (fun S5 F5 V5 x1 x2 => ?_), fun q => absurd ((nI_inj (by omega) (by omega)).mp q) (by omega)⟩
    have hR5 : RefsOk S5.2.2 := by rw [F5.R]; exact hRW
    have M5 : MdG S5.1 (lvA (lv + 1)) (chG g X).2 := MW.mv (by omega) hm (fun j hj => by rw [Nat.zero_add]; exact V5 j hj)
    refine ih (lv + 1) S5 (chG g X).2 (by omega) hR5 cb cr M5 x1 x2 (fun S6 v x F6 y1 y2 y3 y4 => ?_)
    rw [cn] at y1 y4
    have hR6 : RefsOk S6.2.2 := by rw [F6.R]; exact hR5
    have wv : wR (t + 1) (!decide (lv % 2 = 0)) (chG g X).2 v := by
      have ec : decide ((lv + 1) % 2 = 0) = !decide (lv % 2 = 0) := by
        by_cases c : lv % 2 = 0
        · rw [decide_eq_true c, decide_eq_false (by omega)]; rfl
        · rw [decide_eq_false c, decide_eq_true (by omega)]; rfl
      rw [ec, ← cn] at y4
      exact y4.w
    refine s_Md_playing_16 rfl (sp_lvA (sp_Md_restores hR6 (by unfold lvA; omega) (by unfold lvA; omega) (fun S7 F7 V7 => ⟨132, by rw [F7.R]; exact hR6.at (by decide), 5, rfl, vp_in_nI (by omega) (by omega), vp_in_nI (by omega) (by omega), vp_in_nI (by omega) (by omega), fun v10 hv => ?_⟩)))
    have e3 : S7.1 132 (lv + 1) + 1 = nI (2 * gpN g.n + 1) := by rw [F7.1 132 (lv + 1) (by omega), y1, nI_1]
    rw [nI_clamp (by omega), e3] at hv ⊢
    rw [uI_at, if_pos rfl, if_pos rfl] at hv
    subst hv
    have n8 : (aw_uI S7 132 (lv + 1) (nI (2 * gpN g.n + 1))).1 115 0 = nI g.n := by
      rw [uI_ne _ _ _ (by omega), V7 0 (by omega), F6.1 115 _ (by unfold LvX lvA; omega), V5 0 (by omega), ← cn]
      exact MW.1
    have F8 : FrI (fun k j => LvX (lv + 1) k j ∨ ((k = 115 ∧ lvA (lv + 1) ≤ j ∧ j < lvA (lv + 1) + 184) ∨ ((k = 132 ∨ k = 136) ∧ j = lv + 1))) W (aw_uI S7 132 (lv + 1) (nI (2 * gpN g.n + 1))) := (((F5.mono (fun k j q => Or.inr q)).trans (F6.mono (fun k j q => Or.inl q))).trans (F7.mono (fun k j q => Or.inl (by unfold LvX; omega)))).uI _ (Or.inl (Or.inr ⟨Or.inl rfl, Nat.le_refl _⟩))
    have e8 : (aw_uI S7 132 (lv + 1) (nI (2 * gpN g.n + 1))).1 135 (lv + 1) = nI v := by
      rw [uI_ne _ _ _ (by omega), F7.1 135 _ (by omega)]
      exact y2
    revert n8 F8 e8
    generalize aw_uI S7 132 (lv + 1) (nI (2 * gpN g.n + 1)) = U
    intro n8 F8 e8
    have hRU : RefsOk U.2.2 := by rw [F8.R]; exact hRW
    refine sp_Md_gapsOf (s := 0) (MdS.mk0 hRU) (by omega) hn n8 ?_
    rw [e2]
    refine ⟨fun q => absurd ((nI_leI (by omega) (by omega)).mp q) (by omega), fun _ => ⟨fun _ => ?_, fun q => absurd ((nI_inj (b := 0) (by omega) (by omega)).mp q) (by omega)⟩⟩
    rw [nI_mm, nI_pr, nI_1, nI_clamp (by omega)]
    refine ⟨135, hRU.at (by decide), 5, rfl, vp_in_nI (by omega) (by omega), ?_⟩
    rw [e8]
    refine sp_settles (t := t + 1) (X := X) (c := decide (lv % 2 = 0)) (g := g) hRU (by omega) rfl hf (by omega) wv ?_ ?_ (fun S9 F9 P9 => nx S9 ((FW.trans (F8.mono (fun k j q => ?_))).trans (F9.mono (fun k j q => by unfold LvX; omega))) ?_ P9)
    · rw [F8.1 132 lv (by unfold LvX lvA; omega)]; exact w1
    · rw [F8.1 136 lv (by unfold LvX lvA; omega), F8.1 135 lv (by unfold LvX lvA; omega)]; exact w2
    · rcases q with q | q
      · exact q.up
      · unfold LvX
        unfold lvA at *
        omega
    · rw [F9.1 132 lv (by omega), F8.1 132 lv (by unfold LvX lvA; omega)]; exact w1
