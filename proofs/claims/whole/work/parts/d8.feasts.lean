/-! feasts as a text: the reference takes what stands behind a step's word -/
/-- an entry of the reference -/
def enM (c x1 x2 x5 : Nat) (m1 m2 m5 : Int32) : Prop := (c = 3 ∨ c = 8 ∨ c = 9 ∨ c = 12 ∨ c = 1115 ∨ c = 1116 ∨ c = 1117 → m1 = nI x1) ∧ (c = 3 ∨ c = 9 ∨ c = 1116 ∨ c = 1117 ∨ c = 1118 → m2 = nI x2) ∧ (c = 1118 → m5 = nI x5)
def VX (v k j : Nat) : Prop := FX k j ∨ (k = 115 ∧ v ≤ j ∧ j ≤ v + 5)
theorem FXV {v : Nat} {S S' : aw_S} (F : FrI FX S S') : FrI (VX v) S S' := F.mono (fun _ _ q => Or.inl q)
theorem TmG.c115 {S : aw_S} {B : Nat → Nat} {L to : Nat} {t : TK} (h : TmG S B L t) (x : Int32) : TmG (aw_uI S 115 to x) B L t := h.fr (fun j _ => by rw [uI_ne _ _ _ (by decide)]) (uI_ne _ _ _ (by decide)) rfl
theorem FtM.c115 {S : aw_S} {f : Nat × Nat} {to : Nat} (h : FtM S f) (x : Int32) : FtM (aw_uI S 115 to x) f := by
  unfold FtM
  rw [uI_ne _ _ _ (by decide)]
  exact h
theorem FX.c115 {S S' : aw_S} (F : FrI FX S S') (j : Nat) : S'.1 115 j = S.1 115 j := F.1 115 j (by unfold FX; omega)
section FMT
variable {l : Launch} {d L n v : Nat} {B : Nat → Nat} {S : aw_S} {t : TK} {nm : Nat → List Nat} {α : Type}
theorem sp_isSignM {P : Int32 → aw_S → Prop} {q : Nat} (hq : q < 256) (h : TmG S B L t) (k1 : t.k = 3 ∧ B t.b = q → P 1 S) (k0 : ¬ (t.k = 3 ∧ B t.b = q) → P 0 S) : Sp l m_Md_isSign (d + 1) 0 0 [.ref 114, .int (nI q)] sh0 S (gI sh0 P) := by
  obtain ⟨-, c, w, -⟩ := id h
  have is3 := c.is w (q := 3) (by omega)
  refine e_Md_isSign rfl ⟨fun z => k0 (fun y => z (is3.mpr y.1)), fun z => ?_⟩
  have c3 := is3.mp z
  rw [c.2.2.2.2 c3]
  have b4 := w.2.2.2.2.2.2.1 c3
  refine ⟨fun z2 => k0 (fun y => z2 (by rw [y.2])), fun z2 => k1 ⟨c3, (nI_inj (by omega) (by omega)).mp z2⟩⟩
theorem sp_dancerTo {P : Int32 → aw_S → Prop} {to : Nat} (hR : RefsOk S.2.2) (hn : n ≤ 7) (hto : to < 3864) (h0 : S.1 115 0 = nI n) (hnm : ∀ d, d < n → S.2.1 116 d = lN (p8 (nm d)) ∧ okW (nm d)) (h : TmG S B L t)
    (kf : ∀ f, (∀ F : Nat → TK → RsT α, naK B L n nm t F = .inl f) → ∀ x S', FrI FX (aw_uI S 115 to x) S' → FtM S' f → P 0 S')
    (ks : ∀ u, u < n → (∀ F : Nat → TK → RsT α, naK B L n nm t F = F u (tkF B L t.e)) → ∀ S', FrI FX (aw_uI S 115 to (nI u)) S' → TmG S' B L (tkF B L t.e) → P 1 S') : Sp l m_Md_dancerTo (d + 7) 0 0 [.ref 114, .int (nI to)] sh0 S (gI sh0 P) := by
  have hR0 : S.2.2 114 0 = some 115 := hR.at (by decide)
  have self : aw_uI S 115 to (S.1 115 to) = S := by
    refine Prod.ext (funext fun k => funext fun j => ?_) rfl
    rw [uI_at]
    by_cases z : k = 115
    · rw [if_pos z]
      by_cases y : j = to
      · rw [if_pos y, z, y]
      · rw [if_neg y, z]
    · rw [if_neg z]
  refine e_Md_dancerTo rfl (sp_isNameM h (fun q => ⟨fun _ => ⟨115, hR0, 3864, rfl, vp_in_nI (n := 0) (by omega) (by omega), ?_⟩, fun y => absurd y (by decide)⟩) (fun q => ⟨fun y => absurd rfl y, fun _ => sp_failsM (k0 := 2) h (fun S' F T => ⟨Or.inl rfl, kf _ (fun F => ?_) (S.1 115 to) S' (by rw [self]; exact F) T⟩)⟩))
  · have q' : t.k = 1 ∧ t.e - t.b ≤ 8 ∧ rwT B t = none := q
    have e0 : S.1 115 (0 : Int32).toNatClampNeg = nI n := h0
    rw [e0]
    refine sp_findHere (base := 0) (nm := nm) (hR.at (by decide)) (by omega) hn (fun d hd => by rw [Nat.zero_add]; exact hnm d hd) h q ⟨vp_in_nI hto (by omega), 115, hR0, 3864, rfl, vp_in_nI hto (by omega), ?_⟩
    rw [nI_clamp (by omega)]
    have v0 : (aw_uI S 115 to (oI (nmF nm (wdT B t) n 0))).1 115 to = oI (nmF nm (wdT B t) n 0) := by rw [uI_at, if_pos rfl, if_pos rfl]
    rw [v0]
    cases e : nmF nm (wdT B t) n 0 with
    | none =>
      refine ⟨fun y => absurd rfl y, fun _ => sp_failsM (k0 := 3) (h.c115 _) (fun S' F T => ⟨Or.inl rfl, kf _ (fun F => ?_) _ S' F T⟩)⟩
      unfold naK
      rw [if_pos q', e]
    | some u =>
      have lt := nmF_lt n 0 u e
      refine ⟨fun _ => sp_aheadM (h.c115 _) (fun S' F T => ks u (by omega) (fun F => ?_) S' (AXF F) T), fun y => absurd y (nI_ne_m1 (by omega))⟩
      unfold naK
      rw [if_pos q', e]
  · unfold naK
    rw [if_neg (show ¬ (t.k = 1 ∧ t.e - t.b ≤ 8 ∧ rwT B t = none) from q)]
/-- what a form leaves in the reference -/
def OkV (v : Nat) (S S' : aw_S) (B : Nat → Nat) (L c x1 x2 x5 : Nat) (t' : TK) : Prop := FrI (VX v) S S' ∧ TmG S' B L t' ∧ S'.1 115 v = nI c ∧ enM c x1 x2 x5 (S'.1 115 (v + 1)) (S'.1 115 (v + 2)) (S'.1 115 (v + 5))
theorem cU {S S' : aw_S} {to : Nat} {x : Int32} (F : FrI FX (aw_uI S 115 to x) S') (j : Nat) : S'.1 115 j = if j = to then x else S.1 115 j := by
  rw [FX.c115 F, uI_at, if_pos rfl]
theorem FUV {S S' : aw_S} {to : Nat} {x : Int32} (F : FrI FX (aw_uI S 115 to x) S') (h : v ≤ to ∧ to ≤ v + 5) : FrI (VX v) S S' := ((FrI.refl _ S).uI x (Or.inr ⟨rfl, h⟩)).trans (FXV F)
theorem sp_passOrder {P : Int32 → aw_S → Prop} (hR : RefsOk S.2.2) (hn : n ≤ 7) (hv : v < 3800) (h0 : S.1 115 0 = nI n) (hc : S.1 115 v = nI 3) (h : TmG S B L t)
    (kf : ∀ f, (∀ F : Nat → Nat → Nat → Nat → TK → RsT α, fres B L n nm 4 t F = .inl f) → ∀ S', FrI (VX v) S S' → FtM S' f → P 0 S')
    (ks : ∀ c x1 x2 x5 t', (∀ F : Nat → Nat → Nat → Nat → TK → RsT α, fres B L n nm 4 t F = F c x1 x2 x5 t') → ∀ S', OkV v S S' B L c x1 x2 x5 t' → P 1 S') : Sp l m_Md_passOrder (d + 8) 0 0 [.ref 114, .int (nI v)] sh0 S (gI sh0 P) := by
  refine e_Md_passOrder rfl ?_
  rw [nI_1, show (2 : Int32) = nI 2 from rfl, nI_add]
  refine sp_gapTo (s0 := 0) (to := v + 1) (α := α) (MdS.mk0 hR) (by omega) hn h0 (by omega) h (fun f hf S1 F T => ⟨fun _ => kf f (fun F => by rw [fres_4]; exact hf _) S1 (FXV F) T, fun y => absurd rfl y⟩) (fun g v2 hf S1 F T => ⟨fun y => absurd y (by decide), fun _ => ?_⟩)
  have hR1 : RefsOk S1.2.2 := by rw [F.R]; exact hR
  have fin : ∀ (x : Int32) (o : Nat), x = nI o → (∀ F : Nat → Nat → Nat → Nat → TK → RsT α, fres B L n nm 4 t F = F 3 g o 0 (tkF B L (tkF B L t.e).e)) → Sp l m_Md_ahead (d + 7) 0 0 [.ref 114] sh0 (aw_uI S1 115 (v + 2) x) (gV sh0 (fun S7 => P 1 S7)) := by
    intro x o hx hfo
    refine sp_aheadM (T.c115 _) (fun S2 F2 T2 => ks 3 g o 0 _ hfo S2 ⟨?_, T2, ?_, ?_⟩)
    · exact (FUV F (by omega)).trans (FUV (AXF F2) (by omega))
    · rw [cU (AXF F2), if_neg (by omega), cU F, if_neg (by omega)]; exact hc
    · rw [cU (AXF F2), if_neg (by omega), cU F, if_pos rfl, cU (AXF F2), if_pos rfl]
      exact ⟨fun _ => rfl, fun _ => hx, fun y => absurd y (by decide)⟩
  refine sp_howTo (to := v + 2) (hR1.at (by decide)) (by omega) T (fun q => ⟨fun _ => fin 1 1 rfl (fun F => by rw [fres_4, hf, if_pos q]), fun y => absurd y (by decide)⟩) (fun q1 q2 => ⟨fun _ => fin 0 0 rfl (fun F => by rw [fres_4, hf, if_neg q1, if_pos q2]), fun y => absurd y (by decide)⟩) (fun q1 q2 S2 F2 T2 => ⟨fun y => absurd rfl y, fun _ => kf _ (fun F => by rw [fres_4, hf, if_neg q1, if_neg q2]) S2 ((FUV F (by omega)).trans (FXV F2)) T2⟩)
theorem pm_t : ∀ i, i < 19 → ((15 ≤ pmN i ↔ 12 ≤ i ∧ i ≤ 15) ∧ (12 ≤ i → i ≤ 15 → pmN i = i + 3)) := by decide +kernel
theorem sp_test {P : Int32 → aw_S → Prop} (hR : RefsOk S.2.2) (hn : n ≤ 7) (hv : v < 3800) (hv0 : 0 < v) (h0 : S.1 115 0 = nI n) (hnm : ∀ d, d < n → S.2.1 116 d = lN (p8 (nm d)) ∧ okW (nm d)) (h : TmG S B L t)
    (kf : ∀ f, (∀ F : Nat → Nat → Nat → Nat → TK → RsT α, frK B L n nm 11 t F = .inl f) → ∀ S', FrI (VX v) S S' → FtM S' f → P 0 S')
    (ks : ∀ c x1 x2 x5 t', (∀ F : Nat → Nat → Nat → Nat → TK → RsT α, frK B L n nm 11 t F = F c x1 x2 x5 t') → ∀ S', OkV v S S' B L c x1 x2 x5 t' → P 1 S') : Sp l m_Md_test (d + 8) 0 0 [.ref 114, .int (nI v)] sh0 S (gI sh0 P) := by
  obtain ⟨x, c, w, -⟩ := id h
  have hR0 : S.2.2 114 0 = some 115 := hR.at (by decide)
  refine e_Md_test rfl (sp_inWords x w c ?_)
  cases hw : rwT B t with
  | none =>
    refine ⟨fun y => absurd y (by show ¬ (15 : Int32) ≤ -1; decide), fun _ => sp_failsM (k0 := 2) h (fun S' F T => ⟨Or.inl rfl, kf _ (fun F => ?_) S' (FXV F) T⟩)⟩
    rcases frK_cases B L n 11 nm t F with ⟨a1, -⟩ | ⟨-, u, -, -, a2, -⟩ | ⟨-, -, a3⟩
    · exact absurd rfl a1
    · rw [hw] at a2; cases a2
    · exact a3
  | some i =>
    have hi := (rwT_lt hw).1
    obtain ⟨p1, p2⟩ := pm_t i hi
    have pi := (pc_ok i hi).2.2.1
    show (15 ≤ nI (pmN i) → _) ∧ (¬ 15 ≤ nI (pmN i) → _)
    refine ⟨fun z => ?_, fun z => sp_failsM (k0 := 2) h (fun S' F T => ⟨Or.inl rfl, kf _ (fun F => ?_) S' (FXV F) T⟩)⟩
    · have z : 15 ≤ pmN i := (nI_leI (a := 15) (by omega) (by omega)).mp z
      obtain ⟨i1, i2⟩ := p1.mp z
      have ep := p2 i1 i2
      have fk : ∀ F : Nat → Nat → Nat → Nat → TK → RsT α, frK B L n nm 11 t F = fres B L n nm i (tkF B L t.e) F := fun F => by
        rcases frK_cases B L n 11 nm t F with ⟨a1, -⟩ | ⟨-, u, -, -, a2, a3⟩ | ⟨-, ⟨a1, a2, a3, a4⟩, -⟩
        · exact absurd rfl a1
        · rw [hw] at a2
          rw [a3, ← Option.some.inj a2]
        · have i4 : i = 12 ∨ i = 13 ∨ i = 14 ∨ i = 15 := by omega
          rcases i4 with e | e | e | e <;> rw [e] at hw
          · exact absurd hw a1
          · exact absurd hw a2
          · exact absurd hw a3
          · exact absurd hw a4
      refine ⟨115, hR0, 3864, rfl, vp_in_nI (by omega) (by omega), ?_⟩
      show Sp l m_Md_ahead (d + 7) 0 0 [.ref 114] sh0 (aw_uI S 115 (nI v).toNatClampNeg (1100 + nI (pmN i))) _
      rw [nI_clamp (by omega), show (1100 : Int32) = nI 1100 from rfl, nI_add, ep]
      refine sp_aheadM (h.c115 _) (fun S1 F1 T1 => ?_)
      have F1 := AXF F1
      have hR1 : RefsOk S1.2.2 := by rw [F1.R]; exact hR
      have e0 : S1.1 115 0 = nI n := by rw [cU F1, if_neg (by omega)]; exact h0
      have ev : S1.1 115 v = nI (1103 + i) := by rw [cU F1, if_pos rfl, show 1100 + (i + 3) = 1103 + i by omega]
      have V1 : FrI (VX v) S S1 := FUV F1 (by omega)
      have hnm1 : ∀ d, d < n → S1.2.1 116 d = lN (p8 (nm d)) ∧ okW (nm d) := fun d hd => by rw [F1.L]; exact hnm d hd
      show (((nI (pmN i)).toInt < 15 ∨ 17 < (nI (pmN i)).toInt) → _) ∧ (nI (pmN i) = 15 → _) ∧ (nI (pmN i) = 16 → _) ∧ (nI (pmN i) = 17 → _)
      rw [nI_toInt (by omega), ep]
      refine ⟨fun y => ?_, fun y => ?_, fun y => ?_, fun y => ?_⟩
      · have e : i = 15 := by omega
        subst e
        have go : ∀ q, (q = 60 ∨ q = 61 ∨ q = 62) → (tkF B L t.e).k = 3 ∧ B (tkF B L t.e).b = q → ∃ r12, S1.2.2 114 0 = some r12 ∧ ∃ n14, sh0[r12]? = some (3, n14) ∧ vp_in (nI v + (5 : Int32)) n14 ∧ Sp l m_Md_ahead (d + 7) 0 0 [.ref 114] sh0 (aw_uI S1 r12 ((nI v + (5 : Int32) : Int32).toNatClampNeg) (S1.1 114 15)) (gV sh0 (fun S16 => Sp l m_Md_number (d + 7) 0 0 [.ref 114, .int (nI v + (2 : Int32)), .int 0, .int 40] sh0 S16 (gI sh0 (fun x18 S17 => ((x18 = 0 ∨ x18 = 1) ∧ P x18 S17))))) := by
          intro q hq hs
          rw [show (5 : Int32) = nI 5 from rfl, nI_add, show (2 : Int32) = nI 2 from rfl, nI_add, nI_clamp (by omega), T1.2.1.2.2.2.2 hs.1]
          have q59 : (tkF B L t.e).k = 3 ∧ ¬ B (tkF B L t.e).b = 59 := ⟨hs.1, by omega⟩
          refine ⟨115, hR1.at (by decide), 3864, rfl, vp_in_nI (by omega) (by omega), sp_aheadM (T1.c115 _) (fun S2 F2 T2 => ?_)⟩
          have F2 := AXF F2
          refine sp_numberM (lo := 0) (hi := 41) (α := α) (by decide) (by omega) (by omega) (by omega) (by rw [F2.R]; exact hR1.at (by decide)) T2 (fun f hf S3 F3 T3 => ⟨Or.inl rfl, kf f (fun F => by rw [fk, fres_15, if_pos q59]; exact hf _) S3 ((V1.trans (FUV F2 (by omega))).trans (FXV F3)) T3⟩) (fun u _ u2 hf S3 F3 T3 => ⟨Or.inr rfl, ks 1118 0 u (B (tkF B L t.e).b) _ (fun F => by rw [fk, fres_15, if_pos q59, hf]) S3 ⟨(V1.trans (FUV F2 (by omega))).trans (FUV F3 (by omega)), T3, ?_, ?_⟩⟩)
          · rw [cU F3, if_neg (by omega), cU F2, if_neg (by omega)]; exact ev
          · rw [cU F3, if_neg (by omega), cU F2, if_neg (by omega), cU F3, if_pos rfl, cU F3, if_neg (by omega), cU F2, if_pos rfl]
            exact ⟨fun y => by omega, fun _ => rfl, fun _ => rfl⟩
        refine sp_isSignM (q := 60) (by omega) T1 (fun q => ⟨fun _ => go 60 (by omega) q, fun y => absurd y (by decide)⟩) (fun q1 => ⟨fun y => absurd rfl y, fun _ => sp_isSignM (q := 62) (by omega) T1 (fun q => ⟨fun _ => go 62 (by omega) q, fun y => absurd y (by decide)⟩) (fun q2 => ⟨fun y => absurd rfl y, fun _ => sp_isSignM (q := 61) (by omega) T1 (fun q => ⟨fun _ => go 61 (by omega) q, fun y => absurd y (by decide)⟩) (fun q3 => ⟨fun y => absurd rfl y, fun _ => sp_failsM (k0 := 2) T1 (fun S' F T => ⟨Or.inl rfl, kf _ (fun F => ?_) S' (V1.trans (FXV F)) T⟩)⟩)⟩)⟩)
        rw [fk, fres_15, if_neg (fun q => by
          have := sign_in T1.2.2.1 q
          have q1 := fun y => q1 ⟨q.1, y⟩
          have q2 := fun y => q2 ⟨q.1, y⟩
          have q3 := fun y => q3 ⟨q.1, y⟩
          omega)]
      · have e : i = 12 := by have := (nI_inj (b := 15) (by omega) (by omega)).mp y; omega
        subst e
        rw [nI_1]
        refine sp_dancerTo (α := α) hR1 hn (by omega) e0 hnm1 T1 (fun f hf x S2 F2 T2 => ⟨Or.inl rfl, kf f (fun F => by rw [fk, fres_12]; exact hf _) S2 (V1.trans (FUV F2 (by omega))) T2⟩) (fun u u1 hf S2 F2 T2 => ⟨Or.inr rfl, ks 1115 u 0 0 _ (fun F => by rw [fk, fres_12, hf]) S2 ⟨V1.trans (FUV F2 (by omega)), T2, ?_, ?_⟩⟩)
        · rw [cU F2, if_neg (by omega)]; exact ev
        · rw [cU F2, if_pos rfl]
          exact ⟨fun _ => rfl, fun y => by omega, fun y => by omega⟩
      · have e : i = 13 := by have := (nI_inj (b := 16) (by omega) (by omega)).mp y; omega
        subst e
        rw [nI_1, show (2 : Int32) = nI 2 from rfl, nI_add]
        refine sp_dancerTo (α := α) hR1 hn (by omega) e0 hnm1 T1 (fun f hf x S2 F2 T2 => ⟨fun _ => kf f (fun F => by rw [fk, fres_13]; exact hf _) S2 (V1.trans (FUV F2 (by omega))) T2, fun y => absurd rfl y⟩) (fun u u1 hf S2 F2 T2 => ⟨fun y => absurd y (by decide), fun _ => ⟨115, by rw [F2.R]; exact hR1.at (by decide), 3864, rfl, vp_in_nI (n := 0) (by omega) (by omega), ?_⟩⟩)
        have e2 : S2.1 115 (0 : Int32).toNatClampNeg = nI n := by
          show S2.1 115 0 = _
          rw [cU F2, if_neg (by omega)]; exact e0
        rw [e2]
        refine sp_numberM (lo := 0) (hi := n) (α := α) rfl (by omega) (by omega) (by omega) (by rw [F2.R]; exact hR1.at (by decide)) T2 (fun f hg S3 F3 T3 => ⟨fun _ => kf f (fun F => by rw [fk, fres_13, hf]; exact hg _) S3 ((V1.trans (FUV F2 (by omega))).trans (FXV F3)) T3, fun y => absurd rfl y⟩) (fun o _ o2 hg S3 F3 T3 => ⟨fun y => absurd y (by decide), fun _ => ks 1116 u o 0 _ (fun F => by rw [fk, fres_13, hf, hg]) S3 ⟨(V1.trans (FUV F2 (by omega))).trans (FUV F3 (by omega)), T3, ?_, ?_⟩⟩)
        · rw [cU F3, if_neg (by omega), cU F2, if_neg (by omega)]; exact ev
        · rw [cU F3, if_neg (by omega), cU F2, if_pos rfl, cU F3, if_pos rfl]
          exact ⟨fun _ => rfl, fun _ => rfl, fun y => by omega⟩
      · have e : i = 14 := by have := (nI_inj (b := 17) (by omega) (by omega)).mp y; omega
        subst e
        rw [nI_1, show (2 : Int32) = nI 2 from rfl, nI_add]
        refine sp_gapTo (s0 := 0) (to := v + 1) (α := α) (MdS.mk0 hR1) (by omega) hn e0 (by omega) T1 (fun f hf S2 F2 T2 => ⟨fun _ => kf f (fun F => by rw [fk, fres_14]; exact hf _) S2 (V1.trans (FXV F2)) T2, fun y => absurd rfl y⟩) (fun g v2 hf S2 F2 T2 => ⟨fun y => absurd y (by decide), fun _ => ?_⟩)
        refine sp_numberM (lo := 0) (hi := 7) (α := α) (by decide) (by omega) (by omega) (by omega) (by rw [F2.R]; exact hR1.at (by decide)) T2 (fun f hg S3 F3 T3 => ⟨fun _ => kf f (fun F => by rw [fk, fres_14, hf]; exact hg _) S3 ((V1.trans (FUV F2 (by omega))).trans (FXV F3)) T3, fun y => absurd rfl y⟩) (fun o _ o2 hg S3 F3 T3 => ⟨fun y => absurd y (by decide), fun _ => ks 1117 g o 0 _ (fun F => by rw [fk, fres_14, hf, hg]) S3 ⟨(V1.trans (FUV F2 (by omega))).trans (FUV F3 (by omega)), T3, ?_, ?_⟩⟩)
        · rw [cU F3, if_neg (by omega), cU F2, if_neg (by omega)]; exact ev
        · rw [cU F3, if_neg (by omega), cU F2, if_pos rfl, cU F3, if_pos rfl]
          exact ⟨fun _ => rfl, fun _ => rfl, fun y => by omega⟩
    · have no : ¬ (12 ≤ i ∧ i ≤ 15) := fun y => z (nI_le (a := 15) (p1.mpr y) (by omega))
      rcases frK_cases B L n 11 nm t F with ⟨a1, -⟩ | ⟨-, u, u1, u2, a2, -⟩ | ⟨-, -, a3⟩
      · exact absurd rfl a1
      · rw [hw] at a2
        have := Option.some.inj a2
        omega
      · exact a3
theorem sp_feastOrder {P : Int32 → aw_S → Prop} {k : Nat} (hk : isStp k) (hR : RefsOk S.2.2) (hn : n ≤ 7) (hv : v < 3800) (hv0 : 0 < v) (h0 : S.1 115 0 = nI n) (hnm : ∀ d, d < n → S.2.1 116 d = lN (p8 (nm d)) ∧ okW (nm d)) (hc : S.1 115 v = nI (pmN k)) (h : TmG S B L t)
    (kf : ∀ f, (∀ F : Nat → Nat → Nat → Nat → TK → RsT α, frK B L n nm k t F = .inl f) → ∀ S', FrI (VX v) S S' → FtM S' f → P 0 S')
    (ks : ∀ c x1 x2 x5 t', (∀ F : Nat → Nat → Nat → Nat → TK → RsT α, frK B L n nm k t F = F c x1 x2 x5 t') → ∀ S', OkV v S S' B L c x1 x2 x5 t' → P 1 S') : Sp l m_Md_feastOrder (d + 9) 0 0 [.ref 114, .int (nI (pmN k)), .int (nI v)] sh0 S (gI sh0 P) := by
  have pm : ∀ k, k < 19 → isStp k → (k = 4 ∧ pmN k = 3) ∨ (k = 7 ∧ pmN k = 7) ∨ (k = 8 ∧ pmN k = 8) ∨ (k = 9 ∧ pmN k = 9) ∨ (k = 10 ∧ pmN k = 10) ∨ (k = 11 ∧ pmN k = 11) ∨ (k = 16 ∧ pmN k = 12) ∨ (k = 18 ∧ pmN k = 14) := by
    intro k _ hk
    unfold isStp at hk
    rcases hk with e | e | e | e | e | e | e | e <;> subst e <;> decide
  have fk : ∀ F : Nat → Nat → Nat → Nat → TK → RsT α, k ≠ 11 → frK B L n nm k t F = fres B L n nm k t F := fun F q => by
    rcases frK_cases B L n k nm t F with ⟨-, a⟩ | ⟨a, -⟩ | ⟨a, -⟩
    · exact a
    · exact absurd a q
    · exact absurd a q
  have r0 := FrI.refl (VX v) S
  have e12 : nI v + 1 = nI (v + 1) ∧ nI v + 2 = nI (v + 2) := ⟨nI_1 v, by rw [show (2 : Int32) = nI 2 from rfl, nI_add]⟩
  have hR0 : S.2.2 114 0 = some 115 := hR.at (by decide)
  refine e_Md_feastOrder rfl ?_
  rw [e12.1, e12.2]
  have h19 : k < 19 := by unfold isStp at hk; omega
  have tr : ∀ c, c = 7 ∨ c = 10 ∨ c = 14 → pmN k = c → (∀ F : Nat → Nat → Nat → Nat → TK → RsT α, frK B L n nm k t F = F c 0 0 0 t) → P 1 S := fun c hc2 e hF => ks c 0 0 0 t hF S ⟨r0, h, by rw [← e]; exact hc, fun y => by omega, fun y => by omega, fun y => by omega⟩
  have is : ∀ {a c : Nat}, a < 100 → c < 100 → nI a = nI c → a = c := fun ha hc z => (nI_inj (by omega) (by omega)).mp z
  rcases pm k h19 hk with ⟨e, p⟩ | ⟨e, p⟩ | ⟨e, p⟩ | ⟨e, p⟩ | ⟨e, p⟩ | ⟨e, p⟩ | ⟨e, p⟩ | ⟨e, p⟩ <;> rw [p]
  · refine ⟨fun y => absurd y (by decide), fun _ => sp_passOrder (α := α) (nm := nm) hR hn hv h0 (by rw [hc, p]) h (fun f hf S' F T => ⟨Or.inl rfl, kf f (fun F => by rw [fk F (by omega), e]; exact hf F) S' F T⟩) (fun c x1 x2 x5 t' hf S' o => ⟨Or.inr rfl, ks c x1 x2 x5 t' (fun F => by rw [fk F (by omega), e]; exact hf F) S' o⟩), fun y => absurd y (by decide), fun y => absurd y (by decide), fun y => absurd y (by decide), fun y => absurd y (by decide), fun y => absurd y (by decide), fun y => absurd y (by decide), fun y => absurd y (by decide), fun y => absurd y (by decide), fun y => absurd y (by decide)⟩
  · have t7 : P 1 S := tr 7 (by omega) p (fun F => by rw [fk F (by omega), e]; exact fres_7)
    exact ⟨fun y => t7, fun y => absurd y (by decide), fun y => t7, fun y => t7, fun y => t7, fun y => t7, fun y => absurd y (by decide), fun y => absurd y (by decide), fun y => t7, fun y => absurd y (by decide), fun y => absurd y (by decide)⟩
  · refine ⟨fun y => absurd y (by decide), fun y => absurd y (by decide), fun y => absurd y (by decide), fun y => absurd y (by decide), fun y => absurd y (by decide), fun y => absurd y (by decide), fun _ => ?_, fun y => absurd y (by decide), fun y => absurd y (by decide), fun y => absurd y (by decide), fun y => absurd y (by decide)⟩
    refine sp_numberM (lo := 1) (hi := 10) (α := α) (by decide) (by omega) (by omega) (by omega) hR0 h (fun f hf S1 F T => ⟨Or.inl rfl, kf f (fun F => by rw [fk F (by omega), e, fres_8]; exact hf _) S1 (FXV F) T⟩) (fun u u1 u2 hf S1 F T => ⟨Or.inr rfl, ks 8 u 0 0 _ (fun F => by rw [fk F (by omega), e, fres_8, hf]) S1 ⟨FUV F (by omega), T, ?_, ?_⟩⟩)
    · rw [cU F, if_neg (by omega), hc, p]
    · rw [cU F, if_pos rfl]
      exact ⟨fun _ => rfl, fun y => by omega, fun y => by omega⟩
  · refine ⟨fun y => absurd y (by decide), fun y => absurd y (by decide), fun y => absurd y (by decide), fun y => absurd y (by decide), fun y => absurd y (by decide), fun y => absurd y (by decide), fun y => absurd y (by decide), fun _ => ?_, fun y => absurd y (by decide), fun y => absurd y (by decide), fun y => absurd y (by decide)⟩
    refine sp_dancerTo (α := α) hR hn (by omega) h0 hnm h (fun f hf x S2 F2 T2 => ⟨fun _ => kf f (fun F => by rw [fk F (by omega), e, fres_9]; exact hf _) S2 (FUV F2 (by omega)) T2, fun y => absurd rfl y⟩) (fun u u1 hf S2 F2 T2 => ⟨fun y => absurd y (by decide), fun _ => ?_⟩)
    refine sp_numberM (lo := 0) (hi := 6) (α := α) (by decide) (by omega) (by omega) (by omega) (by rw [F2.R]; exact hR0) T2 (fun f hg S3 F3 T3 => ⟨fun _ => kf f (fun F => by rw [fk F (by omega), e, fres_9, hf]; exact hg _) S3 ((FUV F2 (by omega)).trans (FXV F3)) T3, fun y => absurd rfl y⟩) (fun o _ o2 hg S3 F3 T3 => ⟨fun y => absurd y (by decide), fun _ => ks 9 u o 0 _ (fun F => by rw [fk F (by omega), e, fres_9, hf, hg]) S3 ⟨(FUV F2 (by omega)).trans (FUV F3 (by omega)), T3, ?_, ?_⟩⟩)
    · rw [cU F3, if_neg (by omega), cU F2, if_neg (by omega), hc, p]
    · rw [cU F3, if_neg (by omega), cU F2, if_pos rfl, cU F3, if_pos rfl]
      exact ⟨fun _ => rfl, fun _ => rfl, fun y => by omega⟩
  · have t7 : P 1 S := tr 10 (by omega) p (fun F => by rw [fk F (by omega), e]; exact fres_10)
    exact ⟨fun y => t7, fun y => absurd y (by decide), fun y => t7, fun y => t7, fun y => t7, fun y => t7, fun y => absurd y (by decide), fun y => absurd y (by decide), fun y => t7, fun y => absurd y (by decide), fun y => absurd y (by decide)⟩
  · refine ⟨fun y => absurd y (by decide), fun y => absurd y (by decide), fun y => absurd y (by decide), fun y => absurd y (by decide), fun y => absurd y (by decide), fun y => absurd y (by decide), fun y => absurd y (by decide), fun y => absurd y (by decide), fun y => absurd y (by decide), fun _ => ?_, fun y => absurd y (by decide)⟩
    rw [e] at kf ks
    exact sp_test (α := α) hR hn hv hv0 h0 hnm h (fun f hf S' F T => ⟨Or.inl rfl, kf f hf S' F T⟩) (fun c x1 x2 x5 t' hf S' o => ⟨Or.inr rfl, ks c x1 x2 x5 t' hf S' o⟩)
  · refine ⟨fun y => absurd y (by decide), fun y => absurd y (by decide), fun y => absurd y (by decide), fun y => absurd y (by decide), fun y => absurd y (by decide), fun y => absurd y (by decide), fun y => absurd y (by decide), fun y => absurd y (by decide), fun y => absurd y (by decide), fun y => absurd y (by decide), fun _ => ?_⟩
    refine sp_numberM (lo := 1) (hi := 100) (α := α) (by decide) (by omega) (by omega) (by omega) hR0 h (fun f hf S1 F T => ⟨Or.inl rfl, kf f (fun F => by rw [fk F (by omega), e, fres_16]; exact hf _) S1 (FXV F) T⟩) (fun u u1 u2 hf S1 F T => ⟨Or.inr rfl, ks 12 u 0 0 _ (fun F => by rw [fk F (by omega), e, fres_16, hf]) S1 ⟨FUV F (by omega), T, ?_, ?_⟩⟩)
    · rw [cU F, if_neg (by omega), hc, p]
    · rw [cU F, if_pos rfl]
      exact ⟨fun _ => rfl, fun y => by omega, fun y => by omega⟩
  · have t7 : P 1 S := tr 14 (by omega) p (fun F => by rw [fk F (by omega), e]; exact fres_18)
    exact ⟨fun y => t7, fun y => absurd y (by decide), fun y => t7, fun y => t7, fun y => t7, fun y => t7, fun y => absurd y (by decide), fun y => absurd y (by decide), fun y => t7, fun y => absurd y (by decide), fun y => absurd y (by decide)⟩
end FMT
