/-! the class's outlook -/
theorem nI_sub {a b : Nat} (h : b ≤ a) : nI a - nI b = nI (a - b) := by
  have e : nI a = nI (a - b) + nI b := by rw [nI_add, Nat.sub_add_cancel h]
  rw [e, Int32.add_sub_cancel]
theorem bI_1 (b : Bool) : ¬ bI b = 0 ↔ b = true := by cases b <;> decide
section OU
variable {l : Launch} {d : Nat} {S : aw_S}
theorem sp_Ou_suits {P : Int32 → aw_S → Prop} {gap c : Nat} (hR : RefsOk S.2.2) (hg : gap < 7) (h : P (bI (suB (S.1 105 gap) c)) S) : Sp l m_Ou_suits (d + 1) 0 0 [.ref 102, .int (nI gap), .int (nI c)] sh0 S (gI sh0 P) := by
  refine e_Ou_suits rfl ⟨105, hR.at (by decide), 7, rfl, vp_in_nI (by omega) (by omega), ?_⟩
  rw [nI_clamp (by omega)]
  refine ⟨fun q => ?_, fun q => ⟨vp_in_nI (by omega) (by omega), fun q2 => ?_, fun q2 => ?_⟩⟩
  · rw [show suB (S.1 105 gap) c = true from decide_eq_true (Or.inl q)] at h
    exact h
  · rw [show suB (S.1 105 gap) c = false from decide_eq_false (fun z => z.elim q q2)] at h
    exact h
  · rw [show suB (S.1 105 gap) c = true from decide_eq_true (Or.inr q2)] at h
    exact h
theorem sp_wrongGaps {P : Int32 → aw_S → Prop} {gp : Nat} {s : Nat → Nat} (hR : RefsOk S.2.2) (hg : gp ≤ 7) (h3 : S.1 102 3 = nI gp) (hs : ∀ i, i < gp → S.1 106 i = nI (s i)) (h : P (nI (wrC (S.1 105) s gp)) S) : Sp l m_Ou_wrongGaps (d + 1 + 1) 0 0 [.ref 102] sh0 S (gI sh0 P) := by
  have key : ∀ j k, k + j = gp → AW l m_Ou_wrongGaps (d + 1 + 1) 0 0 (gI sh0 P) 0 0 4 [.ref 102, .int (nI (wrC (S.1 105) s k)), .int (nI k)] [] sh0 S := by
    intro j
    induction j with
    | zero =>
      intro k hk
      have hk : k = gp := hk
      subst hk
      refine s_Ou_wrongGaps_4 rfl ?_
      rw [h3]
      exact ⟨fun _ => h, fun q => absurd (nI_le (Nat.le_refl _) (by omega)) q⟩
    | succ j ih =>
      intro k hk
      refine s_Ou_wrongGaps_4 rfl ?_
      rw [h3]
      refine ⟨fun q => absurd q (nI_ge (by omega) (by omega)), fun _ => ⟨106, hR.at (by decide), 7, rfl, vp_in_nI (by omega) (by omega), ?_⟩⟩
      rw [nI_clamp (by omega), hs k (by omega), nI_1, nI_1]
      have e := ih (k + 1) (by omega)
      refine sp_Ou_suits hR (by omega) ⟨fun q => ?_, fun q => ?_⟩
      · have : wrC (S.1 105) s (k + 1) = wrC (S.1 105) s k := by
          conv => lhs; unfold wrC
          rw [if_pos ((bI_1 _).mp q), Nat.add_zero]
        rw [this] at e
        exact e
      · have : wrC (S.1 105) s (k + 1) = wrC (S.1 105) s k + 1 := by
          conv => lhs; unfold wrC
          rw [if_neg (by rw [(bI_0 _).mp q]; decide)]
        rw [this] at e
        exact e
  exact e_Ou_wrongGaps rfl (key gp 0 (by omega))
theorem sp_fillColours {P : aw_S → Prop} {b : Nat} {g : GM} (hab : b = 11 ∨ b = 26) (hS : GrS sh0 S.2.2 b) (hb : bdG g) (H : GrG S.1 b g) (h : ∀ S', FrI (fun k _ => k = 106) S S' → (∀ gap, gap < 7 → S'.1 106 gap = nI (shN g gap)) → P S') : Sp l m_Gr_fillColours (d + 1 + 1) 0 0 [.ref b, .ref 106] sh0 S (gV sh0 P) := by
  have hn : g.n ≤ 7 := hb.1
  have hm : g.m ≤ 40 := hb.2.2.2.2.1
  have hgp := gp_le g.n
  have key : ∀ j k S', k + j = g.m → FrI (fun k _ => k = 106) S S' → (∀ gap, gap < 7 → S'.1 106 gap = nI (shC g.col g.f gap k)) → AW l m_Gr_fillColours (d + 1 + 1) 0 0 (gV sh0 P) 0 0 8 [.ref b, .ref 106, .int (nI k)] [] sh0 S' := by
    intro j
    induction j with
    | zero =>
      intro k S' hk F V
      have hk : k = g.m := hk
      subst hk
      have hS' : GrS sh0 S'.2.2 b := by rw [F.R]; exact hS
      have G' : GrG S'.1 b g := H.fr (fun c q1 q2 => F.cell (fun j => by omega))
      refine s_Gr_fillColours_8 hS.sa ⟨b + 6, hS'.r10, hS.s6, ?_⟩
      rw [G'.2.2.2.1]
      exact ⟨fun _ => h S' F (fun gap hg => by rw [V gap hg, shN_C]), fun q => absurd (nI_le (Nat.le_refl _) (by omega)) q⟩
    | succ j ih =>
      intro k S' hk F V
      have hS' : GrS sh0 S'.2.2 b := by rw [F.R]; exact hS
      have G' : GrG S'.1 b g := H.fr (fun c q1 q2 => F.cell (fun j => by omega))
      have A := G'.pl hS' hb
      obtain ⟨k1, k2, k3, k4, k5⟩ := hb.2.2.2.2.2.1 k (by omega)
      refine s_Gr_fillColours_8 hS.sa ⟨b + 6, hS'.r10, hS.s6, ?_⟩
      rw [G'.2.2.2.1]
      refine ⟨fun q => absurd q (nI_ge (by omega) (by omega)), fun _ => sp_Pl_gapAt A (by omega) ⟨b + 2, hS'.r6, b + 6, hS'.r10, hS.s6, sp_Pl_upperAt A (by omega) ⟨7, hS.s2, vp_in_nI (by omega) (by omega), 7, rfl, vp_in_nI (by omega) (by omega), ?_⟩⟩⟩
      rw [nI_clamp (by omega), nI_clamp (by omega), G'.2.2.2.2.2.1 _ k3, nI_1]
      refine ih (k + 1) _ (by omega) (F.uI _ rfl) (fun gap hg => ?_)
      rw [uI_at, if_pos rfl]
      conv => rhs; unfold shC
      by_cases e : g.f k % 8 = gap
      · rw [if_pos e.symm, if_pos e]
      · rw [if_neg (fun z => e z.symm), if_neg e]
        exact V gap hg
  refine e_Gr_fillColours hS.sa (sp_fillI (r := 106) (n := 7) rfl (by omega) ?_)
  refine key g.m 0 _ (by omega) ((FrI.refl _ _).wI _ (fun j => Or.inl rfl)) (fun gap hg => ?_)
  rw [wI_self, if_pos hg]
  rfl
/-- a code is accepted: it can be done, and its gap shows what it must -/
def acW (w : Nat → Int32) (g : GM) (x : Nat) : Prop := (chG g x).1 ≠ 0 ∧ suB (w (x / 2)) (shN (chG g x).2 (x / 2)) = true
theorem sp_lastPass {P : aw_S → Prop} {b dep x R : Nat} {g : GM} (hab : b = 11 ∨ b = 26) (hR : RefsOk S.2.2) (h2 : S.2.2 102 2 = some b) (hb : bdG g) (hr : redN g.n g.f g.m) (H : GrG S.1 b g) (hx : x < 2 * gpN g.n) (hd : dep < 4) (hrow : S.1 102 0 = nI R) (hR4 : R < 2 ^ 30)
    (hno : ¬ acW (S.1 105) g x → P S)
    (hyes : acW (S.1 105) g x → ∀ S', FrI (fun k j => (k = 102 ∧ j = 0) ∨ k = 103 ∨ k = 104 ∨ (k = 107 ∧ j = x / 2) ∨ (k = 108 ∧ j = 7 * (x / 2) + shN (chG g x).2 (x / 2))) S S' → S'.1 102 0 = nI (R + 1) → S'.1 107 (x / 2) = S.1 107 (x / 2) + 1 → S'.1 108 (7 * (x / 2) + shN (chG g x).2 (x / 2)) = S.1 108 (7 * (x / 2) + shN (chG g x).2 (x / 2)) + 1 →
      (R ≠ 0 → (∀ j, S'.1 103 j = S.1 103 j) ∧ ∀ j, S'.1 104 j = S.1 104 j) → (R = 0 → (∀ j, j < dep → S'.1 103 j = S.1 104 j) ∧ S'.1 103 dep = nI x ∧ ∀ j, j < dep → S'.1 104 j = S.1 104 j) → P S') : Sp l m_Ou_lastPass (d + 1 + 1 + 1 + 1 + 1) 0 0 [.ref 102, .int (nI dep), .int (nI x)] sh0 S (gV sh0 P) := by
  have hn : g.n ≤ 7 := hb.1
  have hgp := gp_le g.n
  have hS : GrS sh0 S.2.2 b := GrS.mk0 hR (by omega)
  have e1 : nI x >>> ((1 : Int32) &&& 31) = nI (x / 2) := by
    rw [n_shr (by omega) _ 1 (by decide)]
  have e2 : nI x &&& 1 = nI (x % 2) := n_and1 (by omega)
  refine e_Ou_lastPass rfl ⟨b, h2, hS.sa, ?_⟩
  rw [e1, e2, nI_clamp (show x / 2 < 2 ^ 31 by omega)]
  refine sp_Gr_colourBehind hS hb H (by omega) (by omega) (fun q => ⟨fun _ => hno (fun z => z.1 (by rw [ch_lt hx]; exact q)), fun z => absurd rfl z⟩) (fun q => ?_)
  rw [← ch_lt hx] at q ⊢
  obtain ⟨cb, cr, cn⟩ := ch_n (x := x) hb hr (by omega)
  have c6 := sh_le cb (x / 2)
  have e7 : nI (x / 2) * 7 + nI (shN (chG g x).2 (x / 2)) = nI (7 * (x / 2) + shN (chG g x).2 (x / 2)) := by rw [show (7 : Int32) = nI 7 from rfl, pk_mul, nI_add, Nat.mul_comm]
  refine ⟨fun z => absurd z (nI_ne_m1 (by omega)), fun _ => sp_Ou_suits hR (by omega) ⟨fun z => ?_, fun z => hno (fun y => by have := y.2; rw [(bI_0 _).mp z] at this; exact absurd this (by decide))⟩⟩
  have hy := hyes ⟨q, (bI_1 _).mp z⟩
  generalize shN (chG g x).2 (x / 2) = c at *
  have fin : ∀ W : aw_S, FrI (fun k j => k = 103 ∨ k = 104) S W → (R ≠ 0 → (∀ j, W.1 103 j = S.1 103 j) ∧ ∀ j, W.1 104 j = S.1 104 j) → (R = 0 → (∀ j, j < dep → W.1 103 j = S.1 104 j) ∧ W.1 103 dep = nI x ∧ ∀ j, j < dep → W.1 104 j = S.1 104 j) → ∃ r10, (aw_uI W 102 0 ((W.1 102 0) + (1 : Int32))).2.2 102 7 = some r10 ∧ ∃ n12, sh0[r10]? = some (3, n12) ∧ vp_in (nI (x / 2)) n12 ∧ vp_in (nI (x / 2)) n12 ∧ ∃ r15, (aw_uI (aw_uI W 102 0 ((W.1 102 0) + (1 : Int32))) r10 (x / 2) (((aw_uI W 102 0 ((W.1 102 0) + (1 : Int32))).1 r10 (x / 2)) + (1 : Int32))).2.2 102 8 = some r15 ∧ Sp l m_Ou_cell (d + 1 + 1 + 1 + 1) 0 0 [.int (nI (x / 2)), .int (nI c)] sh0 (aw_uI (aw_uI W 102 0 ((W.1 102 0) + (1 : Int32))) r10 (x / 2) (((aw_uI W 102 0 ((W.1 102 0) + (1 : Int32))).1 r10 (x / 2)) + (1 : Int32))) (gI sh0 (fun x17 S16 => ∃ n19, sh0[r15]? = some (3, n19) ∧ vp_in x17 n19 ∧ vp_in x17 n19 ∧ P (aw_uI S16 r15 x17.toNatClampNeg ((S16.1 r15 x17.toNatClampNeg) + (1 : Int32))))) := by
    intro W FW w1 w2
    have hRW : RefsOk W.2.2 := by rw [FW.R]; exact hR
    refine ⟨107, hRW.at (by decide), 7, rfl, vp_in_nI (by omega) (by omega), vp_in_nI (by omega) (by omega), 108, hRW.at (by decide), e_Ou_cell ⟨49, rfl, ?_⟩⟩
    rw [e7, nI_clamp (by omega)]
    refine ⟨vp_in_nI (by omega) (by omega), vp_in_nI (by omega) (by omega), hy _ ?_ ?_ ?_ ?_ (fun r => ?_) (fun r => ?_)⟩
    · exact (((FW.mono (fun k j q => by omega)).uI _ (Or.inl ⟨rfl, rfl⟩)).uI _ (Or.inr (Or.inr (Or.inr (Or.inl ⟨rfl, rfl⟩))))).uI _ (Or.inr (Or.inr (Or.inr (Or.inr ⟨rfl, rfl⟩))))
    · rw [uI_ne _ _ _ (by omega), uI_ne _ _ _ (by omega), uI_at, if_pos rfl, if_pos rfl, FW.1 102 0 (by omega), hrow, nI_1]
    · rw [uI_ne _ _ _ (by omega), uI_at, if_pos rfl, if_pos rfl, uI_ne _ _ _ (by omega), FW.1 107 _ (by omega)]
    · rw [uI_at, if_pos rfl, if_pos rfl, uI_ne _ _ _ (by omega), uI_ne _ _ _ (by omega), FW.1 108 _ (by omega)]
    · rw [uI_ne _ _ _ (by omega), uI_ne _ _ _ (by omega), uI_ne _ _ _ (by omega), uI_ne _ _ _ (by omega), uI_ne _ _ _ (by omega), uI_ne _ _ _ (by omega)]
      exact w1 r
    · rw [uI_ne _ _ _ (by omega), uI_ne _ _ _ (by omega), uI_ne _ _ _ (by omega), uI_ne _ _ _ (by omega), uI_ne _ _ _ (by omega), uI_ne _ _ _ (by omega)]
      exact w2 r
  refine ⟨fun r => fin S (FrI.refl _ _) (fun _ => ⟨fun _ => rfl, fun _ => rfl⟩) (fun r2 => absurd (by rw [hrow, r2]; rfl) r), fun r => ?_⟩
  have r0 : R = 0 := by
    rw [hrow] at r
    exact (nI_inj (b := 0) (by omega) (by omega)).mp r
  rw [nI_clamp (show dep < 2 ^ 31 by omega)]
  refine ⟨104, hR.at (by decide), 4, rfl, vp_in_nI (by omega) (by omega), 103, hR.at (by decide), 4, rfl, by decide, by decide, by decide, by decide, by decide, ?_⟩
  have c4 : ∀ j, j < 4 → (aw_cpi (aw_uI S 104 dep (nI x)) 104 103 0 0 4).1 103 j = (aw_uI S 104 dep (nI x)).1 104 j := fun j hj => (cpi_step (n := 4) (by omega)).2 j hj
  refine fin _ ⟨fun k j q => ?_, rfl⟩ (fun q => absurd r0 q) (fun _ => ⟨fun j hj => ?_, ?_, fun j hj => ?_⟩)
  · rw [cpi_ne _ _ _ _ (by omega), uI_ne _ _ _ (by omega)]
  · rw [c4 j (by omega), uI_at, if_pos rfl, if_neg (by omega)]
  · rw [c4 dep hd, uI_at, if_pos rfl, if_pos rfl]
  · rw [cpi_ne _ _ _ _ (by omega), uI_at, if_pos rfl, if_neg (by omega)]
end OU
