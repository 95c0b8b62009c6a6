/-! rows of the class -/
section EX
variable {l : Launch} {d : Nat} {S : aw_S} {b : Nat} {g : GM} {ok : GM → Bool}
theorem sp_finish1 {P : aw_S → Prop} {dep R : Nat} {T : Nat → Nat → Nat} (hab : b = 11 ∨ b = 26) (hR : RefsOk S.2.2) (h2 : S.2.2 102 2 = some b) (hb : bdG g) (hr : redN g.n g.f g.m) (H : GrG S.1 b g) (hd : dep < 4) (h3 : S.1 102 3 = nI (gpN g.n)) (hs : ∀ gap, gap < 7 → S.1 106 gap = nI (shN g gap)) (hw : OkW ok (S.1 105) g.n) (h1 : wrC (S.1 105) (shN g) (gpN g.n) ≤ 1) (hrow : S.1 102 0 = nI R) (hR4 : R < 2 ^ 20) (hT : ∀ gap c, gap < gpN g.n → c ≤ 6 → S.1 108 (7 * gap + c) = nI (T gap c)) (h : ∀ U, ExP ok g b dep 1 R T S U → P U) : Sp l m_Ou_finish (d + 1 + 1 + 1 + 1 + 1 + 1) 0 0 [.ref 102, .int (nI dep), .int 1] sh0 S (gV sh0 P) := by
  have hn : g.n ≤ 7 := hb.1
  have hgp := gp_le g.n
  have e2 : (2 : Int32) * nI (gpN g.n) = nI (2 * gpN g.n) := by rw [show (2 : Int32) = nI 2 from rfl, pk_mul]
  have hsm : ∀ X, X ≤ 2 * gpN g.n → sumF (acN ok g) X ≤ X := fun X _ => by
    have := sumF_k (f := acN ok g) (c := 1) X (fun i _ => by rcases ac_01 ok g i with z | z <;> omega)
    omega
  have GF : ∀ U, FrI (fun k j => (k = 102 ∧ j = 0) ∨ k = 103 ∨ k = 104 ∨ k = 107 ∨ k = 108) S U → GrG U.1 b g := fun U F => H.fr (fun c q1 q2 => F.cell (fun j => by omega))
  -- the second loop
  have key2 : ∀ j k U, k + j = gpN g.n → FrI (fun k j => (k = 102 ∧ j = 0) ∨ k = 103 ∨ k = 104 ∨ k = 107 ∨ k = 108) S U → U.1 102 0 = nI (R + sumF (acN ok g) (2 * gpN g.n)) → (∀ gap, gap < 7 → U.1 107 gap = nI (cgN ok g gap (2 * gpN g.n))) → (∀ gap c, gap < gpN g.n → c ≤ 6 → U.1 108 (7 * gap + c) = nI (T gap c + ccN ok g gap c (2 * gpN g.n) + (if gap < k ∧ shN g gap = c then sumF (acN ok g) (2 * gpN g.n) - cgN ok g gap (2 * gpN g.n) else 0))) → ((R ≠ 0 ∨ sumF (acN ok g) (2 * gpN g.n) = 0) → ∀ j, U.1 103 j = S.1 103 j) → (R = 0 → sumF (acN ok g) (2 * gpN g.n) ≠ 0 → ∃ x0, x0 < 2 * gpN g.n ∧ acN ok g x0 ≠ 0 ∧ (∀ y, y < x0 → acN ok g y = 0) ∧ (∀ i, i < dep → U.1 103 i = S.1 104 i) ∧ U.1 103 dep = nI x0) → (∀ i, i < dep → U.1 104 i = S.1 104 i) → AW l m_Ou_finish (d + 1 + 1 + 1 + 1 + 1 + 1) 0 0 (gV sh0 P) 0 0 99 [.ref 102, .null, .null, .int (nI R), .int (nI k), .null] [] sh0 U := by
    intro j
    induction j with
    | zero =>
      intro k U hk F u1 u2 u3 u4 u5 u6
      have hk : k = gpN g.n := hk
      subst hk
      refine s_Ou_finish_99 rfl ?_
      rw [F.1 102 3 (by omega), h3]
      refine ⟨fun _ => h U ⟨F.mono (fun k j q => by omega), GF U F, u1, fun gap c hg hc => ?_, u4, fun r q => ?_, u6⟩, fun q => absurd (nI_le (Nat.le_refl _) (by omega)) q⟩
      · rw [u3 gap c hg hc, show tabN ok gap c 1 g = ccN ok g gap c (2 * gpN g.n) + (if shN g gap = c then sumF (acN ok g) (2 * gpN g.n) - cgN ok g gap (2 * gpN g.n) else 0) from tab1 hb _ (Nat.le_refl _), Nat.add_assoc]
        by_cases c3 : shN g gap = c
        · rw [if_pos ⟨hg, c3⟩, if_pos c3]
        · rw [if_neg (fun z => c3 z.2), if_neg c3]
      · obtain ⟨x0, a1, a2, a3, a4, a5⟩ := u5 r q
        refine ⟨fun _ => x0, ⟨a1, ?_, ?_, fun y hy q2 => ?_, trivial⟩, a4, fun i hi => ?_⟩
        · intro z
          unfold acN at a2
          rw [if_pos z] at a2
          exact a2 rfl
        · intro z
          unfold acN at a2
          rw [z, ite_self] at a2
          exact a2 rfl
        · have := a3 y hy
          unfold acN at this
          rw [if_neg q2] at this
          exact this
        · have : i = 0 := by omega
          rw [this]
          exact a5
    | succ j ih =>
      intro k U hk F u1 u2 u3 u4 u5 u6
      have hRU : RefsOk U.2.2 := by rw [F.R]; exact hR
      have c6 := sh_le hb k
      have cl := cg_le ok g k (2 * gpN g.n)
      have e7 : nI k * 7 + nI (shN g k) = nI (7 * k + shN g k) := by rw [show (7 : Int32) = nI 7 from rfl, pk_mul, nI_add, Nat.mul_comm]
      have ed : (nI (R + sumF (acN ok g) (2 * gpN g.n)) - nI R) - nI (cgN ok g k (2 * gpN g.n)) = nI (sumF (acN ok g) (2 * gpN g.n) - cgN ok g k (2 * gpN g.n)) := by
        rw [nI_sub (by omega), show R + sumF (acN ok g) (2 * gpN g.n) - R = sumF (acN ok g) (2 * gpN g.n) by omega, nI_sub cl]
      refine s_Ou_finish_99 rfl ?_
      rw [F.1 102 3 (by omega), h3]
      refine ⟨fun q => absurd q (nI_ge (by omega) (by omega)), fun _ => ⟨108, hRU.at (by decide), 106, hRU.at (by decide), 7, rfl, vp_in_nI (by omega) (by omega), ?_⟩⟩
      rw [nI_clamp (by omega), F.1 106 k (by omega), hs k (by omega)]
      refine e_Ou_cell ⟨49, rfl, ?_⟩
      rw [e7, nI_clamp (by omega), nI_1]
      refine ⟨vp_in_nI (by omega) (by omega), 107, hRU.at (by decide), 7, rfl, vp_in_nI (by omega) (by omega), vp_in_nI (by omega) (by omega), ?_⟩
      rw [u1, u2 k (by omega), ed]
      refine ih (k + 1) _ (by omega) (F.uI _ (by omega)) ?_ (fun gap hg => ?_) (fun gap c hg hc => ?_) (fun q j => ?_) (fun r q => ?_) (fun i hi => ?_)
      · rw [uI_ne _ _ _ (by omega)]; exact u1
      · rw [uI_ne _ _ _ (by omega)]; exact u2 gap hg
      · rw [uI_at, if_pos rfl]
        by_cases e : gap = k
        · subst e
          by_cases e3 : shN g gap = c
          · rw [if_pos (by omega), if_pos ⟨by omega, e3⟩, e3, u3 gap c hg hc, if_neg (by omega), nI_add, Nat.add_zero]
          · rw [if_neg (by omega), if_neg (fun z => e3 z.2), u3 gap c hg hc, if_neg (by omega)]
        · rw [if_neg (by omega), u3 gap c hg hc]
          by_cases e3 : gap < k ∧ shN g gap = c
          · rw [if_pos e3, if_pos ⟨by omega, e3.2⟩]
          · rw [if_neg e3, if_neg (fun z => e3 ⟨by omega, z.2⟩)]
      · rw [uI_ne _ _ _ (by omega)]; exact u4 q j
      · obtain ⟨x0, a1, a2, a3, a4, a5⟩ := u5 r q
        refine ⟨x0, a1, a2, a3, fun i hi => ?_, ?_⟩
        · rw [uI_ne _ _ _ (by omega)]; exact a4 i hi
        · rw [uI_ne _ _ _ (by omega)]; exact a5
      · rw [uI_ne _ _ _ (by omega)]; exact u6 i hi
  -- the first loop
  have key1 : ∀ (fl : Bool), (fl = true ↔ wrC (S.1 105) (shN g) (gpN g.n) = 0) → ∀ j X U, X + j = 2 * gpN g.n → FI ok g dep R T X S U → AW l m_Ou_finish (d + 1 + 1 + 1 + 1 + 1 + 1) 0 0 (gV sh0 P) 0 0 47 [.ref 102, .int (nI dep), .null, .int (nI R), .int (bI fl), .int (nI X)] [] sh0 U := by
    intro fl hfl j
    induction j with
    | zero =>
      intro X U hX I
      have hX : X = 2 * gpN g.n := hX
      subst hX
      obtain ⟨f1, f2, f3, f4, f5, f6, f7⟩ := I
      refine s_Ou_finish_47 rfl ?_
      rw [f1.1 102 3 (by omega), h3, e2]
      refine ⟨fun _ => key2 (gpN g.n) 0 U (by omega) f1 f2 f3 (fun gap c hg hc => ?_) f5 f6 f7, fun q => absurd (nI_le (Nat.le_refl _) (by omega)) q⟩
      rw [f4 gap c hg hc, if_neg (by omega), Nat.add_zero]
    | succ j ih =>
      intro X U hX I
      obtain ⟨f1, f2, f3, f4, f5, f6, f7⟩ := id I
      have hRU : RefsOk U.2.2 := by rw [f1.R]; exact hR
      have GU : GrG U.1 b g := GF U f1
      have e105 : U.1 105 = S.1 105 := f1.cell (fun j => by omega)
      have hsX := hsm X (by omega)
      obtain ⟨cb, cr, cn⟩ := ch_n (x := X) hb hr (by omega)
      have c6 := sh_le cb (X / 2)
      have ai := ac_iff (x := X) hw hb hr (by omega) h1
      have e1 : nI X >>> ((1 : Int32) &&& 31) = nI (X / 2) := by
        rw [n_shr (by omega) _ 1 (by decide)]
      have lp : (wrC (S.1 105) (shN g) (gpN g.n) = 0 ∨ suB (S.1 105 (X / 2)) (shN g (X / 2)) = false) → Sp l m_Ou_lastPass (d + 1 + 1 + 1 + 1 + 1) 0 0 [.ref 102, .int (nI dep), .int (nI X)] sh0 U (gV sh0 (fun S3 => AW l m_Ou_finish (d + 1 + 1 + 1 + 1 + 1 + 1) 0 0 (gV sh0 P) 0 0 47 [.ref 102, .int (nI dep), .null, .int (nI R), .int (bI fl), .int (nI X + 1)] [] sh0 S3)) := by
        intro q
        rw [nI_1]
        refine sp_lastPass (R := R + sumF (acN ok g) X) hab hRU (by rw [f1.R]; exact h2) hb hr GU (by omega) hd f2 (by omega) (fun na => ih (X + 1) U (by omega) (I.s0 ?_)) (fun ya V FV v1 v2 v3 v4 v5 => ih (X + 1) V (by omega) (I.s1 ?_ (by omega) c6 FV v1 v2 v3 v4 v5))
        · rw [e105] at na
          rcases ac_01 ok g X with z | z
          · exact z
          · exact absurd (ai.mp z).2 na
        · rw [e105] at ya
          exact ai.mpr ⟨q, ya⟩
      refine s_Ou_finish_47 rfl ?_
      rw [f1.1 102 3 (by omega), h3, e2]
      refine ⟨fun q => absurd q (nI_ge (by omega) (by omega)), fun _ => ⟨fun q => lp (Or.inl (hfl.mp ((bI_1 _).mp q))), fun q => ⟨106, hRU.at (by decide), 7, rfl, ?_, ?_⟩⟩⟩
      · rw [e1]; exact vp_in_nI (by omega) (by omega)
      · rw [e1, nI_clamp (by omega), f1.1 106 _ (by omega), hs (X / 2) (by omega)]
        refine sp_Ou_suits hRU (by omega) ?_
        rw [e105]
        refine ⟨fun z => ?_, fun z => lp (Or.inr ((bI_0 _).mp z))⟩
        rw [nI_1]
        refine ih (X + 1) U (by omega) (I.s0 ?_)
        rcases ac_01 ok g X with y | y
        · exact y
        · exfalso
          have h4 := (ai.mp y).1
          rw [(bI_1 _).mp z] at h4
          rcases h4 with h4 | h4
          · have := hfl.mpr h4
            rw [this] at q
            exact absurd q (by decide)
          · exact absurd h4 (by decide)
  refine e_Ou_finish rfl ⟨107, hR.at (by decide), sp_fillI (r := 107) (n := 7) rfl (by omega) ?_⟩
  have FW : FrI (fun k j => (k = 102 ∧ j = 0) ∨ k = 103 ∨ k = 104 ∨ k = 107 ∨ k = 108) S (aw_wI S 107 (fun j => if j < 7 then 0 else S.1 107 j)) := (FrI.refl _ _).wI _ (fun j => Or.inl (by omega))
  have w107 : ∀ gap, gap < 7 → (aw_wI S 107 (fun j => if j < 7 then 0 else S.1 107 j)).1 107 gap = 0 := fun gap hg => by
    rw [wI_self, if_pos hg]
  have w0 : ∀ k, k ≠ 107 → (aw_wI S 107 (fun j => if j < 7 then 0 else S.1 107 j)).1 k = S.1 k := fun k q => wI_ne _ _ q
  revert FW w107 w0
  generalize aw_wI S 107 (fun j => if j < 7 then 0 else S.1 107 j) = W
  intro FW w107 w0
  have I0 : FI ok g dep R T 0 S W := by
    refine ⟨FW, ?_, fun gap hg => (w107 gap hg).trans rfl, fun gap c hg hc => ?_, fun _ j => ?_, fun _ q => absurd rfl q, fun i hi => ?_⟩
    · rw [w0 102 (by omega)]; exact hrow
    · rw [w0 108 (by omega)]; exact hT gap c hg hc
    · rw [w0 103 (by omega)]
    · rw [w0 104 (by omega)]
  have e105 : W.1 105 = S.1 105 := FW.cell (fun j => by omega)
  have hw0 : W.1 102 0 = nI R := I0.2.1
  refine ⟨fun _ => sp_wrongGaps (gp := gpN g.n) (by rw [FW.R]; exact hR) (by omega) (by rw [FW.1 102 3 (by omega)]; exact h3) (fun i hi => by rw [FW.1 106 i (by omega)]; exact hs i (by omega)) ?_, fun q => absurd q (by decide)⟩
  rw [e105, hw0]
  refine ⟨fun q => key1 false ⟨fun z => absurd z (by decide), fun z => absurd (by rw [z]; rfl) q⟩ _ 0 W (Nat.zero_add _) I0, fun q => key1 true ⟨fun _ => ?_, fun _ => rfl⟩ _ 0 W (Nat.zero_add _) I0⟩
  exact (nI_inj (b := 0) (by omega) (by omega)).mp q
end EX
