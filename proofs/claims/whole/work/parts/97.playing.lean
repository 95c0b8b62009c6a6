/-! the reference's game -/
section KR
variable {l : Launch} {d : Nat} {S : aw_S} {P : aw_S → Prop}
theorem sp_Md_keeps {s : Nat} (hR : RefsOk S.2.2) (h1 : 184 ≤ s) (h2 : s + 184 ≤ 3864) (h : ∀ S', FrI (fun k j => k = 115 ∧ s ≤ j ∧ j < s + 184) S S' → (∀ j, j < 184 → S'.1 115 (s + j) = S.1 115 j) → P S') : Sp l m_Md_keeps (d + 1) 0 0 [.ref 114, .int (nI s)] sh0 S (gV sh0 P) := by
  have key : ∀ j k S', k + j = 184 → FrI (fun k j => k = 115 ∧ s ≤ j ∧ j < s + 184) S S' → (∀ j, j < k → S'.1 115 (s + j) = S.1 115 j) → AW l m_Md_keeps (d + 1) 0 0 (gV sh0 P) 0 0 2 [.ref 114, .int (nI s), .int (nI k)] [] sh0 S' := by
    intro j
    induction j with
    | zero =>
      intro k S' hk F V
      have hk : k = 184 := hk
      subst hk
      exact s_Md_keeps_2 rfl ⟨fun _ => h S' F V, fun q => absurd (by decide) q⟩
    | succ j ih =>
      intro k S' hk F V
      refine s_Md_keeps_2 rfl ⟨fun q => absurd ((nI_leI (a := 184) (by omega) (by omega)).mp q) (by omega), fun _ => ⟨115, by rw [F.R]; exact hR.at (by decide), 3864, rfl, vp_in_nI (by omega) (by omega), ?_, ?_⟩⟩
      · rw [nI_add]; exact vp_in_nI (by omega) (by omega)
      · rw [nI_add, nI_clamp (by omega), nI_clamp (by omega), nI_1]
        refine ih (k + 1) _ (by omega) (F.uI _ ⟨rfl, by omega, by omega⟩) (fun i hi => ?_)
        rw [uI_at, if_pos rfl]
        by_cases e : i = k
        · rw [if_pos (by omega), e]
          exact F.1 115 k (by omega)
        · rw [if_neg (by omega)]
          exact V i (by omega)
  exact e_Md_keeps rfl (key 184 0 S (by omega) (FrI.refl _ _) (fun i hi => absurd hi (Nat.not_lt_zero i)))
theorem sp_Md_restores {s : Nat} (hR : RefsOk S.2.2) (h1 : 184 ≤ s) (h2 : s + 184 ≤ 3864) (h : ∀ S', FrI (fun k j => k = 115 ∧ j < 184) S S' → (∀ j, j < 184 → S'.1 115 j = S.1 115 (s + j)) → P S') : Sp l m_Md_restores (d + 1) 0 0 [.ref 114, .int (nI s)] sh0 S (gV sh0 P) := by
  have key : ∀ j k S', k + j = 184 → FrI (fun k j => k = 115 ∧ j < 184) S S' → (∀ j, j < k → S'.1 115 j = S.1 115 (s + j)) → AW l m_Md_restores (d + 1) 0 0 (gV sh0 P) 0 0 2 [.ref 114, .int (nI s), .int (nI k)] [] sh0 S' := by
    intro j
    induction j with
    | zero =>
      intro k S' hk F V
      have hk : k = 184 := hk
      subst hk
      exact s_Md_restores_2 rfl ⟨fun _ => h S' F V, fun q => absurd (by decide) q⟩
    | succ j ih =>
      intro k S' hk F V
      refine s_Md_restores_2 rfl ⟨fun q => absurd ((nI_leI (a := 184) (by omega) (by omega)).mp q) (by omega), fun _ => ⟨115, by rw [F.R]; exact hR.at (by decide), 3864, rfl, ?_, vp_in_nI (by omega) (by omega), ?_⟩⟩
      · rw [nI_add]; exact vp_in_nI (by omega) (by omega)
      · rw [nI_add, nI_clamp (by omega), nI_clamp (by omega), nI_1]
        refine ih (k + 1) _ (by omega) (F.uI _ ⟨rfl, by omega⟩) (fun i hi => ?_)
        rw [uI_at, if_pos rfl]
        by_cases e : i = k
        · rw [if_pos (by omega), e]
          exact F.1 115 _ (by omega)
        · rw [if_neg (by omega)]
          exact V i (by omega)
  exact e_Md_restores rfl (key 184 0 S (by omega) (FrI.refl _ _) (fun i hi => absurd hi (Nat.not_lt_zero i)))
end KR
def lvA (lv : Nat) : Nat := 2944 + 184 * lv
theorem sp_lvA {l : Launch} {d : Nat} {S : aw_S} {P : Int32 → aw_S → Prop} {lv : Nat} (h : P (nI (lvA lv)) S) : Sp l m_Md_levelAt (d + 1) 0 0 [.int (nI lv)] sh0 S (gI sh0 P) := by
  refine e_Md_levelAt ?_
  rw [show (2944 : Int32) = nI 2944 from rfl, show (184 : Int32) = nI 184 from rfl, pk_mul, nI_add]
  exact h
/-- a pass of the reference that does not count -/
theorem sp_dancesX {l : Launch} {d : Nat} {sh : aw_SH} {S : aw_S} {g : GM} {P : Int32 → aw_S → Prop} {x : Nat} (hS : MdS sh S.2.2) (hb : bdG g) (H : MdG S.1 0 g) (hx : x < 2 * gpN g.n)
    (h : ∀ S', FrI (MX 0) S S' → MdG S'.1 0 (chG g x).2 → P (nI (chG g x).1) S') : Sp l m_Md_dances (d + 1 + 1 + 1) 0 0 [.ref 114, .int 0, .int (nI (x / 2)), .int (nI (x % 2))] sh S (gI sh P) := by
  rw [ch_lt hx] at h
  refine sp_Md_dances (s := 0) hS (by omega) hb H (by omega) (by omega) (fun k S' hu hk F G => ?_) (fun S' hu c F G => ?_) (fun hu c => ?_)
  · rw [ps_2 hu] at h
    exact h S' F G
  · rw [ps_1 hu c] at h
    exact h S' F G
  · rw [ps_0 hu c] at h
    exact h S (FrI.refl _ _) H
/-- how far a level has come -/
def PB (t : Nat) (c : Bool) (g : GM) (X : Nat) (d v : Int32) : Prop := (d = -1 ∧ ∀ y, y < X → (chG g y).1 = 0) ∨ ∃ w x, v = nI w ∧ d = nI x ∧ bestR t c g X w x
theorem PB.s0 {t : Nat} {c : Bool} {g : GM} {X : Nat} {d v : Int32} (h : PB t c g X d v) (hX : (chG g X).1 = 0) : PB t c g (X + 1) d v := by
  rcases h with ⟨h1, h2⟩ | ⟨w, x, e1, e2, a1, a2, a3, a4, a5⟩
  · refine Or.inl ⟨h1, fun y hy => ?_⟩
    by_cases e : y = X
    · rw [e]; exact hX
    · exact h2 y (by omega)
  · refine Or.inr ⟨w, x, e1, e2, by omega, a2, a3, fun y hy q u hu => ?_, a5⟩
    by_cases e : y = X
    · rw [e] at q; exact absurd hX q
    · exact a4 y (by omega) q u hu
theorem PB.s1 {t : Nat} {c : Bool} {g : GM} {X : Nat} {d v : Int32} {u : Nat} (h : PB t c g X d v) (hX : (chG g X).1 ≠ 0) (hu : wR t (!c) (chG g X).2 u) (hd : X < 2 ^ 31) :
    ((d = -1 ∨ ∃ w x, v = nI w ∧ w ≤ 6 ∧ d = nI x ∧ x < 2 ^ 31 ∧ ¬ btR c w u) → PB t c g (X + 1) (nI X) (nI u)) ∧ ((∃ w x, v = nI w ∧ w ≤ 6 ∧ d = nI x ∧ x < 2 ^ 31 ∧ btR c w u) → PB t c g (X + 1) d v) := by
  refine ⟨fun q => ?_, fun q => ?_⟩
  · refine Or.inr ⟨u, X, rfl, rfl, by omega, hX, hu, ?_⟩
    rcases h with ⟨h1, h2⟩ | ⟨w, x, e1, e2, a1, a2, a3, a4, a5⟩
    · refine ⟨fun y hy q2 w hw => ?_, fun y hy q2 => absurd (h2 y hy) q2⟩
      by_cases e : y = X
      · rw [e] at hw
        rw [wR.eq hw hu]
        exact btR.rf c u
      · exact absurd (h2 y (by omega)) q2
    · have hw6 := a3.le
      have nb : ¬ btR c w u := by
        rcases q with q | ⟨w', x', e1', hw', -, -, nb⟩
        · rw [e2] at q
          exact absurd q (nI_ne_m1 (by omega))
        · rw [(nI_inj (by omega) (by omega)).mp (e1.symm.trans e1')]
          exact nb
      have ub : btR c u w := (btR.tot c w u).resolve_left nb
      refine ⟨fun y hy q2 z hz => ?_, fun y hy q2 z hz q3 => ?_⟩
      · by_cases e : y = X
        · rw [e] at hz
          rw [wR.eq hz hu]
          exact btR.rf c u
        · exact ub.tr (a4 y (by omega) q2 z hz)
      · exact nb ((a4 y hy q2 z hz).tr q3)
  · obtain ⟨w', x', e1', hw', e2', hx', nb⟩ := q
    rcases h with ⟨h1, h2⟩ | ⟨w, x, e1, e2, a1, a2, a3, a4, a5⟩
    · rw [h1] at e2'
      exact absurd e2'.symm (nI_ne_m1 hx')
    · have hw6 := a3.le
      have ew : w = w' := (nI_inj (by omega) (by omega)).mp (e1.symm.trans e1')
      refine Or.inr ⟨w, x, e1, e2, by omega, a2, a3, fun y hy q2 z hz => ?_, a5⟩
      by_cases e : y = X
      · rw [e] at hz
        rw [wR.eq hz hu, ew]
        exact nb
      · exact a4 y (by omega) q2 z hz
theorem md_par : ∀ lv, lv < 4 → (nI lv - nI lv / 2 * 2 = 0 ↔ lv % 2 = 0) := by decide +kernel
theorem sp_settles {l : Launch} {d : Nat} {S : aw_S} {P : aw_S → Prop} {t lv X u : Nat} {c : Bool} {g : GM} (hR : RefsOk S.2.2) (hl : lv < 4) (hc : c = decide (lv % 2 = 0)) (hX : (chG g X).1 ≠ 0) (hX2 : X < 100) (hu : wR t (!c) (chG g X).2 u) (ht : S.1 132 lv = nI X) (hp : PB t c g X (S.1 136 lv) (S.1 135 lv)) (h : ∀ S', FrI (fun k j => (k = 135 ∨ k = 136) ∧ j = lv) S S' → PB t c g (X + 1) (S'.1 136 lv) (S'.1 135 lv) → P S') : Sp l m_Md_settles (d + 1) 0 0 [.ref 114, .int (nI lv), .int (nI u)] sh0 S (gV sh0 P) := by
  have hu6 := hu.le
  obtain ⟨s1, s2⟩ := hp.s1 hX hu (by omega)
  have fin : (S.1 136 lv = -1 ∨ ∃ w x, S.1 135 lv = nI w ∧ w ≤ 6 ∧ S.1 136 lv = nI x ∧ x < 2 ^ 31 ∧ ¬ btR c w u) → P (aw_uI (aw_uI S 135 lv (nI u)) 136 lv ((aw_uI S 135 lv (nI u)).1 132 lv)) := by
    intro q
    refine h _ (((FrI.refl _ _).uI _ ⟨Or.inl rfl, rfl⟩).uI _ ⟨Or.inr rfl, rfl⟩) ?_
    rw [uI_at, if_pos rfl, if_pos rfl, uI_ne _ _ _ (by omega), ht, uI_ne _ _ _ (by omega), uI_at, if_pos rfl, if_pos rfl]
    exact s1 q
  have stay : (∃ w x, S.1 135 lv = nI w ∧ w ≤ 6 ∧ S.1 136 lv = nI x ∧ x < 2 ^ 31 ∧ btR c w u) → P S := fun q => h S (FrI.refl _ _) (s2 q)
  refine e_Md_settles rfl ⟨136, hR.at (by decide), 5, rfl, vp_in_nI (by omega) (by omega), ?_⟩
  rw [nI_clamp (by omega)]
  refine ⟨fun q => ?_, fun q => ⟨135, hR.at (by decide), 5, rfl, vp_in_nI (by omega) (by omega), 132, hR.at (by decide), 5, rfl, vp_in_nI (by omega) (by omega), vp_in_nI (by omega) (by omega), fin (Or.inl q)⟩⟩
  rcases hp with ⟨h1, h2⟩ | ⟨w, x, e1, e2, a1, a2, a3, a4, a5⟩
  · exact absurd h1 q
  · have hw6 := a3.le
    refine ⟨fun q2 => ⟨135, hR.at (by decide), 5, rfl, vp_in_nI (by omega) (by omega), ?_⟩, fun q2 => ⟨135, hR.at (by decide), 5, rfl, vp_in_nI (by omega) (by omega), ?_⟩⟩
    · have hcf : c = false := by rw [hc]; exact decide_eq_false (fun z => q2 ((md_par lv hl).mpr z))
      rw [e1]
      refine ⟨fun z => ⟨vp_in_nI (by omega) (by omega), 132, hR.at (by decide), 5, rfl, vp_in_nI (by omega) (by omega), vp_in_nI (by omega) (by omega), fin (Or.inr ⟨w, x, e1, hw6, e2, by omega, ?_⟩)⟩, fun z => stay ⟨w, x, e1, hw6, e2, by omega, ?_⟩⟩
      · have := (nI_ltI (by omega) (by omega)).mp z
        rw [hcf]
        unfold btR
        rw [if_neg (by decide)]
        omega
      · have : ¬ u < w := fun y => z ((nI_ltI (by omega) (by omega)).mpr y)
        rw [hcf]
        unfold btR
        rw [if_neg (by decide)]
        omega
    · have hct : c = true := by rw [hc]; exact decide_eq_true ((md_par lv hl).mp q2)
      rw [e1]
      refine ⟨fun z => ⟨vp_in_nI (by omega) (by omega), 132, hR.at (by decide), 5, rfl, vp_in_nI (by omega) (by omega), vp_in_nI (by omega) (by omega), fin (Or.inr ⟨w, x, e1, hw6, e2, by omega, ?_⟩)⟩, fun z => stay ⟨w, x, e1, hw6, e2, by omega, ?_⟩⟩
      · have := (nI_ltI (by omega) (by omega)).mp z
        rw [hct]
        unfold btR
        rw [if_pos rfl]
        omega
      · have : ¬ w < u := fun y => z ((nI_ltI (by omega) (by omega)).mpr y)
        rw [hct]
        unfold btR
        rw [if_pos rfl]
        omega
/-- a level begins -/
theorem sp_beginsAt {l : Launch} {d : Nat} {S : aw_S} {P : aw_S → Prop} {lv : Nat} (hR : RefsOk S.2.2) (hl : lv < 4) (h : ∀ S', FrI (fun k j => (k = 115 ∧ lvA lv ≤ j ∧ j < lvA lv + 184) ∨ ((k = 132 ∨ k = 136) ∧ j = lv)) S S' → (∀ j, j < 184 → S'.1 115 (lvA lv + j) = S.1 115 j) → S'.1 132 lv = -1 → S'.1 136 lv = -1 → P S') : Sp l m_Md_beginsAt (d + 1 + 1) 0 0 [.ref 114, .int (nI lv)] sh0 S (gV sh0 P) := by
  refine e_Md_beginsAt rfl (sp_lvA (sp_Md_keeps hR (by unfold lvA; omega) (by unfold lvA; omega) (fun S' F V => ?_)))
  refine ⟨132, by rw [F.R]; exact hR.at (by decide), 5, rfl, vp_in_nI (by omega) (by omega), 136, by rw [uI_R, F.R]; exact hR.at (by decide), 5, rfl, vp_in_nI (by omega) (by omega), ?_⟩
  rw [nI_clamp (by omega)]
  refine h _ (((F.mono (fun k j q => Or.inl q)).uI _ (Or.inr ⟨Or.inl rfl, rfl⟩)).uI _ (Or.inr ⟨Or.inr rfl, rfl⟩)) (fun j hj => ?_) ?_ ?_
  · rw [uI_ne _ _ _ (by omega), uI_ne _ _ _ (by omega)]
    exact V j hj
  · rw [uI_ne _ _ _ (by omega), uI_at, if_pos rfl, if_pos rfl]
  · rw [uI_at, if_pos rfl, if_pos rfl]
/-- where levels from one on may write -/
def LvX (lv k j : Nat) : Prop := (k = 115 ∧ (j < 184 ∨ lvA lv + 184 ≤ j)) ∨ ((k = 132 ∨ k = 135 ∨ k = 136) ∧ lv ≤ j)
