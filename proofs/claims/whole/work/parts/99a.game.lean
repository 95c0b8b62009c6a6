/-! game, moveOf -/
/-- where the reference plays -/
def PlX (k j : Nat) : Prop := (k = 115 ∧ 2208 ≤ j) ∨ (121 ≤ k ∧ k ≤ 141)
theorem sp_playing {l : Launch} {d : Nat} {S : aw_S} {Q : Int32 → aw_S → Prop} {g : GM} {t : Nat} (ht : t + 1 ≤ 3) (hR : RefsOk S.2.2) (hb : bdG g) (hr : redN g.n g.f g.m) (hM : MdG S.1 0 g) (h : ∀ S' v x, FrI PlX S S' → S'.1 136 0 = nI x → bestR t true g (2 * gpN g.n + 1) v x → Q (nI v) S') : Sp l m_Md_playing (d + 1 + 1 + 1 + 1 + 1) 0 0 [.ref 114, .int (nI (t + 1))] sh0 S (gI sh0 Q) := by
  have hn : g.n ≤ 7 := hb.1
  have hm : g.m ≤ 40 := hb.2.2.2.2.1
  have hgp := gp_le g.n
  have e2 : (2 : Int32) * nI (gpN g.n) = nI (2 * gpN g.n) := by rw [show (2 : Int32) = nI 2 from rfl, pk_mul]
  refine e_Md_playing rfl ⟨fun _ => sp_beginsAt (lv := 0) hR (by omega) (fun S1 F1 V1 x1 x2 => ?_), fun q => absurd ((nI_inj (b := 0) (by omega) (by omega)).mp q) (by omega)⟩
  have hR1 : RefsOk S1.2.2 := by rw [F1.R]; exact hR
  have M1 : MdG S1.1 (lvA 0) g := hM.mv hn hm (fun j hj => by rw [Nat.zero_add]; exact V1 j hj)
  refine lv_play (T := t + 1) ht t 0 S1 g (by omega) hR1 hb hr M1 x1 x2 (fun S6 v x F6 y1 y2 y3 y4 => ?_)
  have hR6 : RefsOk S6.2.2 := by rw [F6.R]; exact hR1
  refine s_Md_playing_16 rfl (sp_lvA (lv := 0) (sp_Md_restores hR6 (by unfold lvA; omega) (by unfold lvA; omega) (fun S7 F7 V7 => ⟨132, by rw [F7.R]; exact hR6.at (by decide), 5, rfl, vp_in_nI (n := 0) (by omega) (by omega), vp_in_nI (n := 0) (by omega) (by omega), vp_in_nI (n := 0) (by omega) (by omega), fun v10 hv => ?_⟩)))
  have e3 : S7.1 132 0 + 1 = nI (2 * gpN g.n + 1) := by rw [F7.1 132 0 (by omega), y1, nI_1]
  have hv : v10 = (aw_uI S7 132 0 (S7.1 132 0 + 1)).1 132 0 := hv
  show Sp l m_Md_gapsOf _ 0 0 _ sh0 (aw_uI S7 132 0 (S7.1 132 0 + 1)) _
  rw [e3] at hv ⊢
  rw [uI_at, if_pos rfl, if_pos rfl] at hv
  subst hv
  have V8 : ∀ j, j < 184 → (aw_uI S7 132 0 (nI (2 * gpN g.n + 1))).1 115 (lvA 0 + j) = S.1 115 j ∧ (aw_uI S7 132 0 (nI (2 * gpN g.n + 1))).1 115 j = S.1 115 j := fun j hj => by
    have a1 : S6.1 115 (lvA 0 + j) = S.1 115 j := (F6.1 115 _ (by unfold LvX lvA; omega)).trans (V1 j hj)
    refine ⟨?_, ?_⟩
    · rw [uI_ne _ _ _ (by omega), F7.1 115 _ (by unfold lvA; omega)]
      exact a1
    · rw [uI_ne _ _ _ (by omega), V7 j hj]
      exact a1
  have F8 : FrI (fun k j => PlX k j ∨ (k = 115 ∧ j < 184)) S (aw_uI S7 132 0 (nI (2 * gpN g.n + 1))) := (((F1.mono (fun k j q => by unfold PlX; unfold lvA at q; omega)).trans (F6.mono (fun k j q => by unfold LvX lvA at q; unfold PlX; omega))).trans (F7.mono (fun k j q => Or.inr q))).uI _ (Or.inl (Or.inr ⟨by omega, by omega⟩))
  have e8 : (aw_uI S7 132 0 (nI (2 * gpN g.n + 1))).1 135 0 = nI v ∧ (aw_uI S7 132 0 (nI (2 * gpN g.n + 1))).1 136 0 = nI x := by
    rw [uI_ne _ _ _ (by omega), uI_ne _ _ _ (by omega), F7.1 135 _ (by omega), F7.1 136 _ (by omega)]
    exact ⟨y2, y3⟩
  revert V8 F8 e8
  generalize aw_uI S7 132 0 (nI (2 * gpN g.n + 1)) = U
  intro V8 F8 e8
  have hRU : RefsOk U.2.2 := by rw [F8.R]; exact hR
  refine sp_Md_gapsOf (s := 0) (MdS.mk0 hRU) (by omega) hn ((V8 0 (by omega)).2.trans hM.1) ?_
  rw [e2]
  refine ⟨fun q => absurd ((nI_leI (by omega) (by omega)).mp q) (by omega), fun _ => ⟨fun q => absurd rfl q, fun _ => sp_lvA (lv := 0) (sp_Md_restores hRU (by unfold lvA; omega) (by unfold lvA; omega) (fun T F9 V9 => ⟨135, by rw [F9.R]; exact hRU.at (by decide), 5, rfl, vp_in_nI (n := 0) (by omega) (by omega), ?_⟩))⟩⟩
  show Q (T.1 135 0) T
  have e9 : T.1 135 0 = nI v := (F9.1 135 0 (by omega)).trans e8.1
  rw [e9]
  refine h T v x ⟨fun k j q => ?_, F9.2.trans F8.2⟩ ((F9.1 136 0 (by omega)).trans e8.2) y4
  by_cases e : k = 115 ∧ j < 184
  · rw [e.1, V9 j e.2]
    exact (V8 j e.2).1
  · rw [F9.1 k j e]
    exact F8.1 k j (fun z => z.elim q e)
/-- the trial green -/
theorem sp_trial {l : Launch} {d : Nat} {S : aw_S} {P : Nat → aw_S → Prop} {a b : Nat} {g : GM} (hR : RefsOk S.2.2) (N : NowI S a b g) (h : ∀ S', CpF b a S S' → GrG S'.1 b g → P b S') : Sp l m_Mg_trial (d + 1 + 1 + 1) 0 0 [.ref 0] sh0 S (gR sh0 P) := by
  have hab := N.ab
  have hS := N.S hR
  obtain ⟨n1, n2, n3, n4, n5, n6, n7, n8, n9, n10⟩ := id N
  have hB : GrS sh0 S.2.2 b := GrS.mk0 hR (by omega)
  refine e_Mg_trial rfl ⟨b, n2, a, n1, hB.sa, sp_Gr_copyFrom hB hS (by omega) n4 n6 (fun S' C G => ⟨b, by rw [C.2.2.1]; exact n2, h S' C G⟩)⟩
/-- when only the spare green and what is laid out anew has changed -/
theorem Inv.spr {S S1 S2 : aw_S} {a b : Nat} {g : GM} {x : Int32} (h : Inv S) (N : NowI S a b g) (hI : ∀ k j, ¬ ((b ≤ k ∧ k < b + 15) ∨ (99 ≤ k ∧ k ≤ 113)) → S1.1 k j = S.1 k j) (hL : ∀ k j, k ≠ b + 1 → S1.2.1 k j = S.2.1 k j) (hR : RefsOk S1.2.2) (h6 : S1.2.2 0 6 = some a) (h7 : S1.2.2 0 7 = some b) (F : FrI (fun k j => PlX k j ∨ (k = 114 ∧ j = 39)) (aw_uI S1 0 3 x) S2) : Inv (aw_uI S2 114 2 x) := by
  have hab := N.ab
  obtain ⟨n1, n2, n3, n4, n5, n6, n7, n8, n9, n10⟩ := id N
  have eI : ∀ k j, ¬ ((k = 0 ∧ j = 3) ∨ (k = 114 ∧ (j = 2 ∨ j = 39)) ∨ (b ≤ k ∧ k < b + 15) ∨ (99 ≤ k ∧ k ≤ 113) ∨ PlX k j) → (aw_uI S2 114 2 x).1 k j = S.1 k j := fun k j q => by
    by_cases e : k = 114
    · rw [e, uI_at, if_pos rfl, if_neg (by omega), F.1 114 j (by unfold PlX; omega), uI_ne _ _ _ (by omega), hI 114 j (by omega)]
    · rw [uI_ne _ _ _ e, F.1 k j (by intro z; rcases z with z | z; exact q (by simp [z]); omega)]
      by_cases e0 : k = 0
      · rw [e0, uI_at, if_pos rfl, if_neg (by omega), hI 0 j (by omega)]
      · rw [uI_ne _ _ _ e0, hI k j (by omega)]
  have eL : ∀ k j, k ≠ b + 1 → (aw_uI S2 114 2 x).2.1 k j = S.2.1 k j := fun k j q => by
    rw [uI_L, F.L, uI_L, hL k j q]
  have eR : (aw_uI S2 114 2 x).2.2 = S1.2.2 := by rw [uI_R, F.R, uI_R]
  refine h.gen n1 n2 (fun k j q => eI k j (by unfold ZI at q; unfold PlX; omega)) (fun k j q => eL k j (by unfold ZL at q; omega)) (by rw [eR]; exact hR) (by rw [eR]; exact h6) (by rw [eR]; exact h7) (Or.inl ⟨rfl, rfl⟩) ?_ ?_ ?_
  · rw [uI_ne _ _ _ (by omega), F.1 0 3 (by unfold PlX; omega), uI_at, if_pos rfl, if_pos rfl, uI_at, if_pos rfl, if_pos rfl]
  · rw [eL _ _ (by omega), eL _ _ (by omega), eL _ _ (by omega), eL _ _ (by omega)]
    exact h.2.1
  · exact (ggR.fr ⟨g.n, g.od, g.lg, g.m, g.f, g.col, g.std, n4, n5, n6, n7, n8, (fun d hd => by rw [Nat.zero_add]; exact n9 d hd), n10⟩ (fun c q1 q2 => funext fun j => eI c j (by unfold PlX; omega)) (fun j hj => eI 115 _ (by unfold PlX; omega)) (funext fun j => eL _ j (by omega)) (fun d hd => eL 116 _ (by omega)))
theorem ok_game (l : Launch) : Ok_game l 0 114 sh0 Inv := by
  intro S hI x
  obtain ⟨a, b, g, N⟩ := hI.now
  have hab := N.ab
  obtain ⟨n1, n2, n3, n4, n5, n6, n7, n8, n9, n10⟩ := id N
  refine e_Mg_game rfl (sp_isWithin (d := 198) ?_)
  by_cases c1 : 0 ≤ x ∧ x ≤ 3
  · rw [if_pos c1]
    obtain ⟨t, ht, rfl⟩ := le_ge (n := 3) (by decide) c1
    have cx := c1
    refine ⟨fun _ => sp_trial (d := 196) hI.rf N (fun S1 C G => ?_), fun q => absurd q (by decide)⟩
    obtain ⟨c1, c2, c3, c4, c5⟩ := C
    have hR1 : RefsOk S1.2.2 := by rw [c3]; exact hI.rf
    refine sp_worth (a := b) t true 199 g S1 _ (by omega) (by omega) (GrS.mk0 hR1 (by omega)) n4 n5 G (fun v S2 hv F G2 => e_Mg_give rfl ?_)
    have hI2 : ∀ k j, ¬ (b ≤ k ∧ k < b + 15) → S2.1 k j = S.1 k j := fun k j q => by rw [F.1 k j (by unfold GX; omega), c1 k j (by omega)]
    have hL2 : ∀ k j, k ≠ b + 1 → S2.2.1 k j = S.2.1 k j := fun k j q => by rw [F.L, c2 k j q]
    have hR2 : S2.2.2 = S.2.2 := by rw [F.R, c3]
    have M2 : MdG (aw_uI S2 0 3 0).1 0 g := n7.fr n4.1 n4.2.2.2.2.1 (fun j _ => by rw [uI_ne _ _ _ (by omega), hI2 115 _ (by omega)])
    have rr : RefsOk (aw_uI S2 0 3 0).2.2 := by rw [uI_R, hR2]; exact hI.rf
    have spr : ∀ S3, FrI PlX (aw_uI S2 0 3 0) S3 → Inv (aw_uI S3 114 2 0) := fun S3 F3 => hI.spr N (fun k j q => hI2 k j (by omega)) hL2 (by rw [hR2]; exact hI.rf) (by rw [hR2]; exact n1) (by rw [hR2]; exact n2) (F3.mono (fun k j q => Or.inl q))
    refine e_Md_game rfl (sp_isFrom (d := 198) (y := 0) (z := 3) (by decide) (by decide) (fun _ => ⟨fun q => absurd q (by decide), fun _ => ?_⟩) (fun z => absurd cx z))
    cases t with
    | zero =>
      refine e_Md_playing rfl ⟨fun q => absurd rfl q, fun _ => sp_Md_howManyShow (d := 194) (MdS.mk0 rr) n4 M2 (fun w hw => e_Md_gives rfl ⟨?_, spr _ (FrI.refl _ _)⟩)⟩
      rw [wR.eq hv ⟨w, hw, rfl⟩]
    | succ t =>
      refine sp_playing (d := 194) (by omega) rr n4 n5 M2 (fun S3 v' x' F3 y1 y2 => e_Md_gives rfl ⟨?_, spr _ F3⟩)
      rw [wR.eq hv y2.w]
  · rw [if_neg c1]
    exact ⟨fun q => absurd rfl q, fun _ => e_Mg_fail rfl (e_Md_game rfl (sp_isFrom (d := 198) (y := 0) (z := 3) (by decide) (by decide) (fun z => absurd z c1) (fun _ => ⟨fun _ => e_Md_refuse rfl ⟨rfl, hI.st rfl⟩, fun q => absurd rfl q⟩)))⟩
theorem sp_opening {l : Launch} {sh : aw_SH} {a : Nat} {D t : Nat} {g : GM} {S : aw_S} {P : Int32 → aw_S → Prop} (ht : t + 1 ≤ 3) (hD : t + 6 ≤ D) (hS : GrS sh S.2.2 a) (hb : bdG g) (hr : redN g.n g.f g.m) (H : GrG S.1 a g) (h : ∀ S' v x, FrI (GX a) S S' → bestR t true g (2 * gpN g.n + 1) v x → P (if x = 2 * gpN g.n then -1 else nI x) S') : Sp l m_Py_opening D 0 0 [.ref a, .int (nI (t + 1))] sh S (gI sh P) := by
  obtain ⟨e, rfl⟩ : ∃ e, D = e + 1 + 1 + 1 + 1 + 1 := ⟨D - 5, by omega⟩
  have hn : g.n ≤ 7 := hb.1
  have hgp := gp_le g.n
  have e2 : (2 : Int32) * nI (gpN g.n) = nI (2 * gpN g.n) := by rw [show (2 : Int32) = nI 2 from rfl, pk_mul]
  have key : ∀ j X S' b m, X + j = 2 * gpN g.n → FrI (GX a) S S' → GrG S'.1 a g → PB t true g X m b → (m = -1 → b = -1) → AW l m_Py_opening (e + 1 + 1 + 1 + 1 + 1) 0 0 (gI sh P) 0 0 15 [.ref a, .int (nI (t + 1)), .int b, .int m, .int (nI (2 * gpN g.n)), .int (nI X), .null, .null] [] sh S' := by
    intro j
    induction j with
    | zero =>
      intro X S' b m hX F G W hm
      have hX : X = 2 * gpN g.n := hX
      subst hX
      have hS' : GrS sh S'.2.2 a := by rw [F.R]; exact hS
      refine s_Py_opening_15 ⟨fun _ => ?_, fun q => absurd (nI_le (Nat.le_refl _) (by omega)) q⟩
      rw [nI_pr]
      refine sp_worth t false _ g S' _ (by omega) (by omega) hS' hb hr G (fun u S2 hu F2 G2 => ?_)
      have hu6 := hu.le
      have hf : (chG g (2 * gpN g.n)).1 ≠ 0 := by rw [ch_no]; exact (by decide : (1 : Nat) ≠ 0)
      have hu' : wR t (!true) (chG g (2 * gpN g.n)).2 u := by rw [ch_no]; exact hu
      obtain ⟨s1, s2⟩ := W.s1 hf hu' (by omega)
      have fin : ∀ v x, bestR t true g (2 * gpN g.n + 1) v x → P (if x = 2 * gpN g.n then -1 else nI x) S2 := fun v x hv => h S2 v x (F.trans F2) hv
      have new : (m = -1 ∨ ∃ w x, b = nI w ∧ w ≤ 6 ∧ m = nI x ∧ x < 2 ^ 31 ∧ ¬ btR true w u) → P (-1) S2 := fun q => by
        rcases s1 q with ⟨q1, -⟩ | ⟨w, x, q1, q2, q3⟩
        · exact absurd q1 (nI_ne_m1 (by omega))
        · have ex : 2 * gpN g.n = x := (nI_inj (by omega) (by have := q3.1; omega)).mp q2
          have := fin w x q3
          rw [if_pos ex.symm] at this
          exact this
      rcases id W with ⟨h1, h2⟩ | ⟨w, x, e1, e2', a1, a2, a3, a4, a5⟩
      · rw [hm h1]
        exact ⟨fun q => absurd q (Int32.not_le.mpr (Int32.lt_of_lt_of_le m1_lt (nI_pos' (by omega)))), fun _ => new (Or.inl h1)⟩
      · have hw6 := a3.le
        rw [e1]
        refine ⟨fun q => ?_, fun q => new (Or.inr ⟨w, x, e1, hw6, e2', by omega, fun z => q ?_⟩)⟩
        · have := (nI_leI (by omega) (by omega)).mp q
          have bt : btR true w u := by unfold btR; rw [if_pos rfl]; exact this
          rcases s2 ⟨w, x, e1, hw6, e2', by omega, bt⟩ with ⟨q1, -⟩ | ⟨w', x', q1, q2, q3⟩
          · rw [e2'] at q1
            exact absurd q1 (nI_ne_m1 (by omega))
          · have ex : x = x' := (nI_inj (by omega) (by have := q3.1; omega)).mp (e2'.symm.trans q2)
            have := fin w' x' q3
            rw [if_neg (by omega), ← ex] at this
            rw [e2']
            exact this
        · unfold btR at z
          rw [if_pos rfl] at z
          exact nI_le z (by omega)
    | succ j ihj =>
      intro X S' b m hX F G W hm
      have hS' : GrS sh S'.2.2 a := by rw [F.R]; exact hS
      obtain ⟨cb, cr, cn⟩ := ch_n (x := X) hb hr (by omega)
      refine s_Py_opening_15 ⟨fun q => absurd q (nI_ge (by omega) (by omega)), fun _ => ⟨hS.sa, sp_tryX hS' hb G (by omega) (fun q => ⟨fun _ => ?_, fun z => absurd rfl z⟩) (fun r T q1 q2 F1 G1 tb => ⟨fun z => absurd z q2, fun _ => ?_⟩)⟩⟩
      · rw [nI_1]
        exact ihj (X + 1) S' b m (by omega) F G (W.s0 q) hm
      · have hT : GrS sh T.2.2 a := by rw [F1.R]; exact hS'
        rw [nI_pr, nI_1]
        refine sp_worth t false _ _ T _ (by omega) (by omega) hT cb cr G1 (fun u T2 hu F2 G2 => ?_)
        have hT2 : GrS sh T2.2.2 a := by rw [F2.R]; exact hT
        have hu6 := hu.le
        obtain ⟨s1, s2⟩ := W.s1 q1 hu (by omega)
        refine tb hT2 G2 (fun T3 F3 G3 => ?_)
        have FF := ((F.trans F1).trans F2).trans F3
        have new : (m = -1 ∨ ∃ w x, b = nI w ∧ w ≤ 6 ∧ m = nI x ∧ x < 2 ^ 31 ∧ ¬ btR true w u) → AW l m_Py_opening (e + 1 + 1 + 1 + 1 + 1) 0 0 (gI sh P) 0 0 15 [.ref a, .int (nI (t + 1)), .int (nI u), .int (nI X), .int (nI (2 * gpN g.n)), .int (nI (X + 1)), .null, .null] [] sh T3 := fun q => ihj (X + 1) T3 _ _ (by omega) FF G3 (s1 q) (fun z => absurd z (nI_ne_m1 (by omega)))
        rcases id W with ⟨h1, h2⟩ | ⟨w, x, e1, e2', a1, a2, a3, a4, a5⟩
        · refine ⟨fun q => absurd q ?_, fun _ => new (Or.inl h1)⟩
          rw [hm h1]
          exact Int32.not_le.mpr (Int32.lt_of_lt_of_le m1_lt (nI_pos' (by omega)))
        · have hw6 := a3.le
          refine ⟨fun q => ihj (X + 1) T3 _ _ (by omega) FF G3 (s2 ⟨w, x, e1, hw6, e2', by omega, ?_⟩) hm, fun q => new (Or.inr ⟨w, x, e1, hw6, e2', by omega, fun z => q ?_⟩)⟩
          · rw [e1] at q
            unfold btR
            rw [if_pos rfl]
            exact (nI_leI (by omega) (by omega)).mp q
          · unfold btR at z
            rw [if_pos rfl] at z
            rw [e1]
            exact nI_le z (by omega)
  refine e_Py_opening ⟨hS.sa, sp_Gr_gaps hS.sa hn H.1 ?_⟩
  rw [e2]
  exact key _ 0 S _ _ (Nat.zero_add _) (FrI.refl _ _) H (Or.inl ⟨rfl, fun y hy => absurd hy (Nat.not_lt_zero y)⟩) (fun _ => rfl)
theorem ok_moveOf (l : Launch) : Ok_moveOf l 0 114 sh0 Inv := by
  intro S hI x
  obtain ⟨a, b, g, N⟩ := hI.now
  have hab := N.ab
  obtain ⟨n1, n2, n3, n4, n5, n6, n7, n8, n9, n10⟩ := id N
  have hn : g.n ≤ 7 := n4.1
  have hgp := gp_le g.n
  have e2 : (2 : Int32) * nI (gpN g.n) = nI (2 * gpN g.n) := by rw [show (2 : Int32) = nI 2 from rfl, pk_mul]
  refine e_Mg_moveOf rfl (sp_isWithin (d := 198) ?_)
  by_cases c1 : 1 ≤ x ∧ x ≤ 3
  · rw [if_pos c1]
    have cx := c1
    obtain ⟨t, ht, rfl⟩ : ∃ t, t + 1 ≤ 3 ∧ x = nI (t + 1) := by
      have c0 : (0 : Int32) ≤ x := Int32.le_trans (by decide) c1.1
      obtain ⟨t, ht, rfl⟩ := le_ge (n := 3) (by decide) ⟨c0, c1.2⟩
      cases t with
      | zero => exact absurd c1.1 (by decide)
      | succ t => exact ⟨t, ht, rfl⟩
    refine ⟨fun _ => sp_trial (d := 196) hI.rf N (fun S1 C G => ?_), fun q => absurd q (by decide)⟩
    obtain ⟨c1, c2, c3, c4, c5⟩ := C
    have hR1 : RefsOk S1.2.2 := by rw [c3]; exact hI.rf
    refine sp_opening (a := b) ht (by omega) (GrS.mk0 hR1 (by omega)) n4 n5 G (fun S2 v w F hv => ?_)
    have hI2 : ∀ k j, ¬ (b ≤ k ∧ k < b + 15) → S2.1 k j = S.1 k j := fun k j q => by rw [F.1 k j (by unfold GX; omega), c1 k j (by omega)]
    have hL2 : ∀ k j, k ≠ b + 1 → S2.2.1 k j = S.2.1 k j := fun k j q => by rw [F.L, c2 k j q]
    have hR2 : S2.2.2 = S.2.2 := by rw [F.R, c3]
    have hw := hv.1
    have M2 : ∀ s, MdG (aw_uI S2 0 3 s).1 0 g := fun s => n7.fr n4.1 n4.2.2.2.2.1 (fun j _ => by rw [uI_ne _ _ _ (by omega), hI2 115 _ (by omega)])
    have rr : ∀ s, RefsOk (aw_uI S2 0 3 s).2.2 := fun s => by rw [uI_R, hR2]; exact hI.rf
    have spr : ∀ s S3, FrI PlX (aw_uI S2 0 3 s) S3 → Inv (aw_uI S3 114 2 s) := fun s S3 F3 => hI.spr N (fun k j q => hI2 k j (by omega)) hL2 (by rw [hR2]; exact hI.rf) (by rw [hR2]; exact n1) (by rw [hR2]; exact n2) (F3.mono (fun k j q => Or.inl q))
    have end1 : ∀ s S3 v' x', FrI PlX (aw_uI S2 0 3 s) S3 → S3.1 136 0 = nI x' → bestR t true g (2 * gpN g.n + 1) v' x' → RefsOk S3.2.2 ∧ S3.1 115 0 = nI g.n ∧ S3.1 136 (0 : Int32).toNatClampNeg = nI w := fun s S3 v' x' F3 y1 y2 => by
      obtain ⟨z1, z2⟩ := hv.eq y2
      refine ⟨by rw [F3.R]; exact rr s, ?_, ?_⟩
      · rw [F3.1 115 0 (by unfold PlX; omega)]
        exact (M2 s).1
      · rw [z2]; exact y1
    by_cases ew : w = 2 * gpN g.n
    · rw [if_pos ew]
      refine ⟨fun q => absurd rfl q, fun _ => e_Mg_fail rfl (e_Md_moveOf rfl (sp_isFrom (d := 198) (y := 1) (z := 3) (by decide) (by decide) (fun _ => ⟨fun _ => ?_, fun q => absurd q (by decide)⟩) (fun z => absurd cx z)))⟩
      refine sp_playing (d := 194) (by omega) (rr 6) n4 n5 (M2 6) (fun S3 v' x' F3 y1 y2 => ?_)
      obtain ⟨r3, m3, w3⟩ := end1 6 S3 v' x' F3 y1 y2
      refine ⟨136, r3.at (by decide), 5, rfl, vp_in_nI (n := 0) (by omega) (by omega), sp_Md_gapsOf (s := 0) (d := 198) (MdS.mk0 r3) (by omega) hn m3 ?_⟩
      rw [w3, e2, ew]
      exact ⟨fun q => absurd rfl q, fun _ => e_Md_refuse rfl ⟨rfl, spr 6 S3 F3⟩⟩
    · rw [if_neg ew]
      refine ⟨fun _ => e_Mg_give rfl (e_Md_moveOf rfl (sp_isFrom (d := 198) (y := 1) (z := 3) (by decide) (by decide) (fun _ => ⟨fun _ => ?_, fun q => absurd q (by decide)⟩) (fun z => absurd cx z))), fun q => absurd q (nI_ne_m1 (by omega))⟩
      refine sp_playing (d := 194) (by omega) (rr 0) n4 n5 (M2 0) (fun S3 v' x' F3 y1 y2 => ?_)
      obtain ⟨r3, m3, w3⟩ := end1 0 S3 v' x' F3 y1 y2
      refine ⟨136, r3.at (by decide), 5, rfl, vp_in_nI (n := 0) (by omega) (by omega), sp_Md_gapsOf (s := 0) (d := 198) (MdS.mk0 r3) (by omega) hn m3 ?_⟩
      rw [w3, e2]
      refine ⟨fun _ => ⟨136, r3.at (by decide), 5, rfl, vp_in_nI (n := 0) (by omega) (by omega), ?_⟩, fun q => absurd ((nI_inj (by omega) (by omega)).mp q) ew⟩
      rw [w3]
      exact e_Md_gives rfl ⟨rfl, spr 0 S3 F3⟩
  · rw [if_neg c1]
    exact ⟨fun q => absurd rfl q, fun _ => e_Mg_fail rfl (e_Md_moveOf rfl (sp_isFrom (d := 198) (y := 1) (z := 3) (by decide) (by decide) (fun z => absurd z c1) (fun _ => ⟨fun q => absurd rfl q, fun _ => e_Md_refuse rfl ⟨rfl, hI.st rfl⟩⟩)))⟩
