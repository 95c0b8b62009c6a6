/-! rows of the class, from one pass to the next -/
def rwF (ok : GM → Bool) (r : Nat) (g : GM) (x : Nat) : Nat := if (chG g x).1 = 0 then 0 else rowsN ok r (chG g x).2
def tbF (ok : GM → Bool) (gap c r : Nat) (g : GM) (x : Nat) : Nat := if (chG g x).1 = 0 then 0 else tabN ok gap c r (chG g x).2
theorem rows_s (ok : GM → Bool) (r : Nat) (g : GM) : rowsN ok (r + 1) g = sumF (rwF ok r g) (2 * gpN g.n) := rfl
theorem tab_s (ok : GM → Bool) (gap c r : Nat) (g : GM) : tabN ok gap c (r + 1) g = sumF (tbF ok gap c r g) (2 * gpN g.n) := rfl
theorem sum_mono {f : Nat → Nat} : ∀ {X Y : Nat}, X ≤ Y → sumF f X ≤ sumF f Y := by
  intro X Y h
  induction h with
  | refl => exact Nat.le_refl _
  | step _ ih => exact Nat.le_trans ih (Nat.le_add_right _ _)
theorem wrC_le {w : Nat → Int32} {s : Nat → Nat} : ∀ n, wrC w s n ≤ n := by
  intro n
  induction n with
  | zero => exact Nat.le_refl _
  | succ n ih =>
    unfold wrC
    split <;> omega
/-- how far the codes of a pass have come, in a table at (c, j), ta, its first row at fa, what lies ahead at pa -/
def LI (ok : GM → Bool) (g : GM) (r dep R : Nat) (T : Nat → Nat → Nat) (X : Nat) (c j ta fa : Nat) (pr : Nat → Int32) (f0 : Nat → Int32) (I : Nat → Nat → Int32) : Prop :=
  I c j = nI (R + sumF (rwF ok r g) X) ∧ (∀ gap c, gap < gpN g.n → c ≤ 6 → I ta (7 * gap + c) = nI (T gap c + sumF (tbF ok gap c r g) X)) ∧
  ((R ≠ 0 ∨ sumF (rwF ok r g) X = 0) → ∀ j, I fa j = f0 j) ∧ (R = 0 → sumF (rwF ok r g) X ≠ 0 → ∃ x0 p, x0 < X ∧ (chG g x0).1 ≠ 0 ∧ rowsN ok r (chG g x0).2 ≠ 0 ∧ (∀ y, y < x0 → (chG g y).1 ≠ 0 → rowsN ok r (chG g y).2 = 0) ∧ FR ok r (chG g x0).2 p ∧ (∀ i, i < dep → I fa i = pr i) ∧ I fa dep = nI x0 ∧ ∀ i, i < r → I fa (dep + 1 + i) = nI (p i))
theorem LI.s0 {ok : GM → Bool} {g : GM} {r dep R X c j ta fa : Nat} {T : Nat → Nat → Nat} {pr f0 : Nat → Int32} {I : Nat → Nat → Int32} (h : LI ok g r dep R T X c j ta fa pr f0 I) (h0 : (chG g X).1 = 0) : LI ok g r dep R T (X + 1) c j ta fa pr f0 I := by
  obtain ⟨f1, f2, f3, f4⟩ := h
  have e1 : sumF (rwF ok r g) (X + 1) = sumF (rwF ok r g) X := by rw [sum_s]; unfold rwF; rw [if_pos h0, Nat.add_zero]
  refine ⟨by rw [e1]; exact f1, fun gap c hg hc => ?_, by rw [e1]; exact f3, fun q1 q2 => ?_⟩
  · rw [f2 gap c hg hc, sum_s]
    unfold tbF
    rw [if_pos h0, Nat.add_zero]
  · rw [e1] at q2
    obtain ⟨x0, p, a1, a2⟩ := f4 q1 q2
    exact ⟨x0, p, by omega, a2⟩
/-- rows R and table T before it, r passes to come, in cells c j, ta, fa -/
def XI (ok : GM → Bool) (g : GM) (dep r R : Nat) (T : Nat → Nat → Nat) (c j ta fa : Nat) (pr f0 : Nat → Int32) (I : Nat → Nat → Int32) : Prop :=
  I c j = nI (R + rowsN ok r g) ∧ (∀ gap c, gap < gpN g.n → c ≤ 6 → I ta (7 * gap + c) = nI (T gap c + tabN ok gap c r g)) ∧
  ((R ≠ 0 ∨ rowsN ok r g = 0) → ∀ j, I fa j = f0 j) ∧ (R = 0 → rowsN ok r g ≠ 0 → ∃ p, FR ok r g p ∧ (∀ i, i < dep → I fa i = pr i) ∧ ∀ i, i < r → I fa (dep + i) = nI (p i))
theorem LI.s1 {ok : GM → Bool} {g : GM} {r dep R X c j ta fa : Nat} {T : Nat → Nat → Nat} {pr pr' f0 f1 : Nat → Int32} {I I' : Nat → Nat → Int32} (h : LI ok g r dep R T X c j ta fa pr f0 I) (h1 : (chG g X).1 ≠ 0) (hn : (chG g X).2.n = g.n) (hp : (∀ i, i < dep → pr' i = pr i) ∧ pr' dep = nI X) (hf : ∀ j, f1 j = I fa j) (h2 : XI ok (chG g X).2 (dep + 1) r (R + sumF (rwF ok r g) X) (fun gap c => T gap c + sumF (tbF ok gap c r g) X) c j ta fa pr' f1 I') : LI ok g r dep R T (X + 1) c j ta fa pr f0 I' := by
  obtain ⟨a1, a2, a3, a4⟩ := h
  obtain ⟨b1, b2, b3, b4⟩ := h2
  have e1 : sumF (rwF ok r g) (X + 1) = sumF (rwF ok r g) X + rowsN ok r (chG g X).2 := by
    rw [sum_s]
    show _ + (if (chG g X).1 = 0 then 0 else rowsN ok r (chG g X).2) = _
    rw [if_neg h1]
  refine ⟨by rw [b1, e1, Nat.add_assoc], fun gap c hg hc => ?_, fun q j => ?_, fun q1 q2 => ?_⟩
  · rw [b2 gap c (by rw [hn]; exact hg) hc, sum_s]
    show _ = nI (T gap c + (sumF (tbF ok gap c r g) X + (if (chG g X).1 = 0 then 0 else tabN ok gap c r (chG g X).2)))
    rw [if_neg h1, Nat.add_assoc]
  · rw [b3 (by omega) j, hf j, a3 (by omega) j]
  · by_cases q : sumF (rwF ok r g) X = 0
    · obtain ⟨p, c1, c2, c3⟩ := b4 (by omega) (by omega)
      refine ⟨X, p, by omega, h1, by omega, fun y hy q3 => ?_, c1, fun i hi => ?_, ?_, c3⟩
      · have := sum_z X q y hy
        unfold rwF at this
        rw [if_neg q3] at this
        exact this
      · rw [c2 i (by omega)]; exact hp.1 i hi
      · rw [c2 dep (by omega)]; exact hp.2
    · obtain ⟨x0, p, c1, c2, c3, c4, c5, c6, c7, c8⟩ := a4 q1 q
      have hk : ∀ j, I' fa j = I fa j := fun j => by rw [b3 (Or.inl (by omega)) j, hf j]
      refine ⟨x0, p, by omega, c2, c3, c4, c5, fun i hi => ?_, ?_, fun i hi => ?_⟩
      · rw [hk]; exact c6 i hi
      · rw [hk]; exact c7
      · rw [hk]; exact c8 i hi
theorem LI.fin {ok : GM → Bool} {g : GM} {r dep R c j ta fa : Nat} {T : Nat → Nat → Nat} {pr f0 : Nat → Int32} {I : Nat → Nat → Int32} (h : LI ok g r dep R T (2 * gpN g.n) c j ta fa pr f0 I) : XI ok g dep (r + 1) R T c j ta fa pr f0 I := by
  obtain ⟨a1, a2, a3, a4⟩ := h
  refine ⟨a1, a2, a3, fun q1 q2 => ?_⟩
  obtain ⟨x0, p, c1, c2, c3, c4, c5, c6, c7, c8⟩ := a4 q1 q2
  refine ⟨fun i => match i with | 0 => x0 | i + 1 => p i, ⟨c1, c2, c3, c4, c5⟩, c6, fun i hi => ?_⟩
  cases i with
  | zero => exact c7
  | succ i =>
    have := c8 i (by omega)
    rw [show dep + (i + 1) = dep + 1 + i by omega]
    exact this
theorem LI.beg {ok : GM → Bool} {g : GM} {r dep R c j ta fa : Nat} {T : Nat → Nat → Nat} {pr f0 : Nat → Int32} {I : Nat → Nat → Int32} (h1 : I c j = nI R) (h2 : ∀ gap c, gap < gpN g.n → c ≤ 6 → I ta (7 * gap + c) = nI (T gap c)) (h3 : ∀ j, I fa j = f0 j) : LI ok g r dep R T 0 c j ta fa pr f0 I := ⟨h1, h2, fun _ j => h3 j, fun _ q => absurd rfl q⟩
theorem XI.none {ok : GM → Bool} {g : GM} {r dep R c j ta fa : Nat} {T : Nat → Nat → Nat} {pr f0 : Nat → Int32} {I : Nat → Nat → Int32} (h0 : rowsN ok r g = 0) (h1 : I c j = nI R) (h2 : ∀ gap c, gap < gpN g.n → c ≤ 6 → I ta (7 * gap + c) = nI (T gap c)) (h3 : ∀ j, I fa j = f0 j) : XI ok g dep r R T c j ta fa pr f0 I := by
  refine ⟨by rw [h0]; exact h1, fun gap c hg hc => ?_, fun _ j => h3 j, fun _ q => absurd h0 q⟩
  have := tab_le (ok := ok) (gap := gap) (c := c) r g
  rw [show tabN ok gap c r g = 0 by omega]
  exact h2 gap c hg hc
/-- an extension of the class -/
def OX (b k j : Nat) : Prop := (k = 102 ∧ j = 0) ∨ k = 103 ∨ k = 104 ∨ k = 106 ∨ k = 107 ∨ k = 108 ∨ GX b k j
theorem OX.g {b k j : Nat} (h : GX b k j) : OX b k j := Or.inr (Or.inr (Or.inr (Or.inr (Or.inr (Or.inr h)))))
theorem ExP.x {ok : GM → Bool} {g : GM} {b dep r R : Nat} {T : Nat → Nat → Nat} {S U : aw_S} (h : ExP ok g b dep r R T S U) : FrI (OX b) S U ∧ GrG U.1 b g ∧ (∀ i, i < dep → U.1 104 i = S.1 104 i) ∧ XI ok g dep r R T 102 0 108 103 (S.1 104) (S.1 103) U.1 := by
  obtain ⟨a1, a2, a3, a4, a5, a6, a7⟩ := h
  exact ⟨a1, a2, a7, a3, a4, a5, a6⟩
theorem XI.cp {ok : GM → Bool} {g : GM} {r dep R c j ta fa : Nat} {T : Nat → Nat → Nat} {pr pr' f0 f0' : Nat → Int32} {I : Nat → Nat → Int32} (h : XI ok g dep r R T c j ta fa pr f0 I) (hp : ∀ i, i < dep → pr' i = pr i) (hf : ∀ j, f0' j = f0 j) : XI ok g dep r R T c j ta fa pr' f0' I := by
  obtain ⟨a1, a2, a3, a4⟩ := h
  refine ⟨a1, a2, fun q j => by rw [hf j]; exact a3 q j, fun q1 q2 => ?_⟩
  obtain ⟨p, b1, b2, b3⟩ := a4 q1 q2
  exact ⟨p, b1, fun i hi => by rw [hp i hi]; exact b2 i hi, b3⟩
section EY
variable {l : Launch} {b : Nat} {ok : GM → Bool}
theorem sp_extend (hab : b = 11 ∨ b = 26) : ∀ (r D dep : Nat) (g : GM) (S : aw_S) (R : Nat) (T : Nat → Nat → Nat) (P : aw_S → Prop), dep + (r + 1) ≤ 4 → r + 7 ≤ D → RefsOk S.2.2 → S.2.2 102 2 = some b → bdG g → redN g.n g.f g.m → GrG S.1 b g → S.1 102 3 = nI (gpN g.n) → OkW ok (S.1 105) g.n → S.1 102 0 = nI R → R + rowsN ok (r + 1) g < 2 ^ 20 → (∀ gap c, gap < gpN g.n → c ≤ 6 → S.1 108 (7 * gap + c) = nI (T gap c)) →
    (∀ U, FrI (OX b) S U → GrG U.1 b g → (∀ i, i < dep → U.1 104 i = S.1 104 i) → XI ok g dep (r + 1) R T 102 0 108 103 (S.1 104) (S.1 103) U.1 → P U) → Sp l m_Ou_extend D 0 0 [.ref 102, .int (nI dep), .int (nI (dep + (r + 1)))] sh0 S (gV sh0 P) := by
  intro r
  induction r with
  | zero =>
    intro D dep g S R T P hd hD hR h2 hb hr H h3 hw hrow hR4 hT h
    obtain ⟨e, rfl⟩ : ∃ e, D = e + 1 + 1 + 1 + 1 + 1 + 1 + 1 := ⟨D - 7, by omega⟩
    have hn : g.n ≤ 7 := hb.1
    have hgp := gp_le g.n
    have hS : GrS sh0 S.2.2 b := GrS.mk0 hR (by omega)
    have es : nI (dep + (0 + 1)) - nI dep = nI 1 := by rw [nI_sub (by omega), show dep + (0 + 1) - dep = 1 by omega]
    refine e_Ou_extend rfl ⟨b, h2, 106, hR.at (by decide), hS.sa, sp_fillColours hab hS hb H (fun S4 F4 V4 => sp_wrongGaps (gp := gpN g.n) (by rw [F4.R]; exact hR) (by omega) (by rw [F4.1 102 3 (by omega)]; exact h3) (fun i hi => V4 i (by omega)) ?_)⟩
    have e105 : S4.1 105 = S.1 105 := F4.cell (fun j => by omega)
    have G4 : GrG S4.1 b g := H.fr (fun c q1 q2 => F4.cell (fun j => by omega))
    have wl := wrC_le (w := S.1 105) (s := shN g) (gpN g.n)
    have m4 : ∀ i, i < dep → S4.1 104 i = S.1 104 i := fun i _ => F4.1 104 i (by omega)
    have F4' : FrI (OX b) S S4 := F4.mono (fun k j q => by unfold OX; omega)
    rw [e105, es]
    refine ⟨fun q => h S4 F4' G4 m4 (XI.none (rows_pr hw 1 g hb hr rfl ((nI_ltI (by omega) (by omega)).mp q)) (by rw [F4.1 102 0 (by omega)]; exact hrow) (fun gap c hg hc => by rw [F4.1 108 _ (by omega)]; exact hT gap c hg hc) (fun j => F4.1 103 j (by omega))), fun q => ⟨fun _ => ⟨fun q2 => absurd q2 (by decide), fun _ => ?_⟩, fun q2 => absurd ((nI_leI (b := 4) (by omega) (by omega)).mpr (by omega)) q2⟩⟩
    refine sp_finish1 (ok := ok) (g := g) (R := R) (T := T) hab (by rw [F4.R]; exact hR) (by rw [F4.R]; exact h2) hb hr G4 (by omega) (by rw [F4.1 102 3 (by omega)]; exact h3) V4 (by rw [e105]; exact hw) ?_ (by rw [F4.1 102 0 (by omega)]; exact hrow) (by omega) (fun gap c hg hc => by rw [F4.1 108 _ (by omega)]; exact hT gap c hg hc) (fun U X => ?_)
    · rw [e105]
      have : ¬ 1 < wrC (S.1 105) (shN g) (gpN g.n) := fun z => q (nI_lt z (by omega))
      omega
    · obtain ⟨x1, x2, x3, x4⟩ := X.x
      exact h U (F4'.trans x1) x2 (fun i hi => (x3 i hi).trans (m4 i hi)) (x4.cp (fun i hi => (m4 i hi).symm) (fun j => (F4.1 103 j (by omega)).symm))
  | succ r ih =>
    intro D dep g S R T P hd hD hR h2 hb hr H h3 hw hrow hR4 hT h
    obtain ⟨e, rfl⟩ : ∃ e, D = e + 1 + 1 + 1 + 1 + 1 + 1 + 1 := ⟨D - 7, by omega⟩
    have hn : g.n ≤ 7 := hb.1
    have hgp := gp_le g.n
    have hS : GrS sh0 S.2.2 b := GrS.mk0 hR (by omega)
    have e2 : (2 : Int32) * nI (gpN g.n) = nI (2 * gpN g.n) := by rw [show (2 : Int32) = nI 2 from rfl, pk_mul]
    have es : nI (dep + (r + 1 + 1)) - nI dep = nI (r + 2) := by rw [nI_sub (by omega), show dep + (r + 1 + 1) - dep = r + 2 by omega]
    have key : ∀ j X U, X + j = 2 * gpN g.n → FrI (OX b) S U → GrG U.1 b g → (∀ i, i < dep → U.1 104 i = S.1 104 i) → LI ok g (r + 1) dep R T X 102 0 108 103 (S.1 104) (S.1 103) U.1 → AW l m_Ou_extend (e + 1 + 1 + 1 + 1 + 1 + 1 + 1) 0 0 (gV sh0 P) 0 0 44 [.ref 102, .int (nI dep), .int (nI (dep + (r + 1 + 1))), .null, .int (nI X), .null] [] sh0 U := by
      intro j
      induction j with
      | zero =>
        intro X U hX F G M L
        have hX : X = 2 * gpN g.n := hX
        subst hX
        refine s_Ou_extend_44 rfl ?_
        rw [F.1 102 3 (by unfold OX GX; omega), h3, e2]
        exact ⟨fun _ => h U F G M L.fin, fun q => absurd (nI_le (Nat.le_refl _) (by omega)) q⟩
      | succ j ihj =>
        intro X U hX F G M L
        have hRU : RefsOk U.2.2 := by rw [F.R]; exact hR
        have hSU : GrS sh0 U.2.2 b := GrS.mk0 hRU (by omega)
        obtain ⟨cb, cr, cn⟩ := ch_n (x := X) hb hr (by omega)
        refine s_Ou_extend_44 rfl ?_
        rw [F.1 102 3 (by unfold OX GX; omega), h3, e2]
        refine ⟨fun q => absurd q (nI_ge (by omega) (by omega)), fun _ => ⟨b, by rw [F.R]; exact h2, hS.sa, ?_⟩⟩
        rw [nI_1]
        refine sp_tryX hSU hb G (by omega) (fun q => ⟨fun _ => ihj (X + 1) U (by omega) F G M (L.s0 q), fun z => absurd rfl z⟩) (fun rr V q1 q2 F1 G1 tb => ⟨fun z => absurd z q2, fun _ => ?_⟩)
        have hRV : RefsOk V.2.2 := by rw [F1.R]; exact hRU
        refine ⟨104, hRV.at (by decide), 4, rfl, vp_in_nI (by omega) (by omega), ?_⟩
        rw [nI_clamp (by omega), nI_1]
        have FW : FrI (OX b) S (aw_uI V 104 dep (nI X)) := (F.trans (F1.mono (fun k j q => OX.g q))).uI _ (by unfold OX; omega)
        have GW : GrG (aw_uI V 104 dep (nI X)).1 b (chG g X).2 := G1.fr (fun c q1 q2 => uI_ne _ _ _ (by omega))
        have w4 : (∀ i, i < dep → (aw_uI V 104 dep (nI X)).1 104 i = S.1 104 i) ∧ (aw_uI V 104 dep (nI X)).1 104 dep = nI X := by
          refine ⟨fun i hi => ?_, ?_⟩
          · rw [uI_at, if_pos rfl, if_neg (by omega), F1.1 104 i (by unfold GX; omega)]
            exact M i hi
          · rw [uI_at, if_pos rfl, if_pos rfl]
        have wk : ∀ k j, k ≠ 104 → ¬ GX b k j → (aw_uI V 104 dep (nI X)).1 k j = U.1 k j := fun k j q1 q2 => by
          rw [uI_ne _ _ _ q1, F1.1 k j q2]
        revert FW GW w4 wk
        generalize aw_uI V 104 dep (nI X) = W
        intro FW GW w4 wk
        have hRW : RefsOk W.2.2 := by rw [FW.R]; exact hR
        have bnd : R + sumF (rwF ok (r + 1) g) X + rowsN ok (r + 1) (chG g X).2 < 2 ^ 20 := by
          have m1 := sum_mono (f := rwF ok (r + 1) g) (X := X + 1) (Y := 2 * gpN g.n) (by omega)
          have m2 : sumF (rwF ok (r + 1) g) (X + 1) = sumF (rwF ok (r + 1) g) X + rowsN ok (r + 1) (chG g X).2 := by
            rw [sum_s]
            show _ + (if (chG g X).1 = 0 then 0 else rowsN ok (r + 1) (chG g X).2) = _
            rw [if_neg q1]
          rw [rows_s] at hR4
          omega
        have e105 : W.1 105 = S.1 105 := FW.cell (fun j => by unfold OX GX; omega)
        rw [show dep + (r + 1 + 1) = dep + 1 + (r + 1) by omega]
        refine ih _ (dep + 1) (chG g X).2 W (R + sumF (rwF ok (r + 1) g) X) (fun gap c => T gap c + sumF (tbF ok gap c (r + 1) g) X) _ (by omega) (by omega) hRW (by rw [FW.R]; exact h2) cb cr GW (by rw [FW.1 102 3 (by unfold OX GX; omega), cn]; exact h3) (by rw [e105, cn]; exact hw) ?_ bnd (fun gap c hg hc => ?_) (fun Y FY GY MY XY => ?_)
        · rw [wk 102 0 (by omega) (by unfold GX; omega)]; exact L.1
        · rw [wk 108 _ (by omega) (by unfold GX; omega)]; exact L.2.1 gap c (by rw [← cn]; exact hg) hc
        · have hRY : RefsOk Y.2.2 := by rw [FY.R]; exact hRW
          refine ⟨b, by rw [FY.R, FW.R]; exact h2, hS.sa, tb (GrS.mk0 hRY (by omega)) GY (fun Z FZ GZ => ?_)⟩
          rw [show dep + 1 + (r + 1) = dep + (r + 1 + 1) by omega]
          have ez : ∀ k j, ¬ GX b k j → Z.1 k j = Y.1 k j := fun k j q => FZ.1 k j q
          refine ihj (X + 1) Z (by omega) ((FW.trans FY).trans (FZ.mono (fun k j q => OX.g q))) GZ (fun i hi => ?_) (L.s1 (pr' := W.1 104) (f1 := W.1 103) q1 cn w4 (fun j => wk 103 j (by omega) (by unfold GX; omega)) ?_)
          · rw [ez 104 i (by unfold GX; omega), MY i (by omega)]; exact w4.1 i hi
          · obtain ⟨a1, a2, a3, a4⟩ := XY
            refine ⟨by rw [ez 102 0 (by unfold GX; omega)]; exact a1, fun gap c hg hc => by rw [ez 108 _ (by unfold GX; omega)]; exact a2 gap c hg hc, fun q j => by rw [ez 103 j (by unfold GX; omega)]; exact a3 q j, fun z1 z2 => ?_⟩
            obtain ⟨p, c1, c2, c3⟩ := a4 z1 z2
            exact ⟨p, c1, fun i hi => by rw [ez 103 i (by unfold GX; omega)]; exact c2 i hi, fun i hi => by rw [ez 103 _ (by unfold GX; omega)]; exact c3 i hi⟩
    refine e_Ou_extend rfl ⟨b, h2, 106, hR.at (by decide), hS.sa, sp_fillColours hab hS hb H (fun S4 F4 V4 => sp_wrongGaps (gp := gpN g.n) (by rw [F4.R]; exact hR) (by omega) (by rw [F4.1 102 3 (by omega)]; exact h3) (fun i hi => V4 i (by omega)) ?_)⟩
    have e105 : S4.1 105 = S.1 105 := F4.cell (fun j => by omega)
    have G4 : GrG S4.1 b g := H.fr (fun c q1 q2 => F4.cell (fun j => by omega))
    have wl := wrC_le (w := S.1 105) (s := shN g) (gpN g.n)
    have m4 : ∀ i, i < dep → S4.1 104 i = S.1 104 i := fun i _ => F4.1 104 i (by omega)
    have F4' : FrI (OX b) S S4 := F4.mono (fun k j q => by unfold OX; omega)
    rw [e105, es]
    refine ⟨fun q => h S4 F4' G4 m4 (XI.none (rows_pr hw (r + 2) g hb hr rfl ((nI_ltI (by omega) (by omega)).mp q)) (by rw [F4.1 102 0 (by omega)]; exact hrow) (fun gap c hg hc => by rw [F4.1 108 _ (by omega)]; exact hT gap c hg hc) (fun j => F4.1 103 j (by omega))), fun q => ⟨fun _ => ⟨fun q2 => ?_, fun q2 => absurd (nI_lt (a := 1) (b := r + 2) (by omega) (by omega)) q2⟩, fun q2 => absurd ((nI_leI (b := 4) (by omega) (by omega)).mpr (by omega)) q2⟩⟩
    exact key _ 0 S4 (Nat.zero_add _) F4' G4 m4 (LI.beg (by rw [F4.1 102 0 (by omega)]; exact hrow) (fun gap c hg hc => by rw [F4.1 108 _ (by omega)]; exact hT gap c hg hc) (fun j => F4.1 103 j (by omega)))
end EY
