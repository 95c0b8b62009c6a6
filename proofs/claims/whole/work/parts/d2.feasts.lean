/-! feasts as a text: the class takes what stands behind a step's word -/
/-- a step of the class, and the entry that it stands for -/
def enC (c x1 x2 x5 : Nat) (kd ts fs sd : Int32) : Prop := (c = 3 ∧ kd = 4 ∧ fs = nI x1 ∧ sd = nI x2) ∨ (c = 7 ∧ kd = 7) ∨ (c = 8 ∧ kd = 8 ∧ fs = nI x1) ∨ (c = 9 ∧ kd = 9 ∧ fs = nI x1 ∧ sd = nI x2) ∨ (c = 10 ∧ kd = 10) ∨ (c = 14 ∧ kd = 18) ∨ (c = 12 ∧ kd = 16 ∧ fs = nI x1) ∨ (kd = 11 ∧ ((c = 1115 ∧ ts = 12 ∧ fs = nI x1) ∨ (c = 1116 ∧ ts = 13 ∧ fs = nI x1 ∧ sd = nI x2) ∨ (c = 1117 ∧ ts = 14 ∧ fs = nI x1 ∧ sd = nI x2) ∨ (c = 1118 ∧ ts = 15 ∧ fs = nI x5 ∧ sd = nI x2)))
/-- only the cell p of c and the tokens change -/
def FrC (c p : Nat) (S S' : aw_S) : Prop := (∀ k j, ¬ (k = 94 ∨ (k = c ∧ j = p)) → S'.1 k j = S.1 k j) ∧ (∀ k j, k ≠ 94 → S'.2.1 k j = S.2.1 k j) ∧ S'.2.2 = S.2.2
def FrR (p : Nat) (S S' : aw_S) : Prop := (∀ k j, ¬ (k = 94 ∨ ((k = 90 ∨ k = 91) ∧ j = p)) → S'.1 k j = S.1 k j) ∧ (∀ k j, k ≠ 94 → S'.2.1 k j = S.2.1 k j) ∧ S'.2.2 = S.2.2
theorem FrU.C {c p : Nat} {S S' : aw_S} (h : FrU S S') : FrC c p S S' := ⟨fun k j q => h.1 k j (fun z => q (Or.inl z)), h.2⟩
theorem FrC.R {c p : Nat} {S S' : aw_S} (h : FrC c p S S') (hc : c = 90 ∨ c = 91) : FrR p S S' := ⟨fun k j q => h.1 k j (fun z => z.elim (fun z => q (Or.inl z)) (fun z => q (Or.inr ⟨by omega, z.2⟩))), h.2⟩
theorem FrR.trans {p : Nat} {S S' S'' : aw_S} (h : FrR p S S') (h' : FrR p S' S'') : FrR p S S'' := ⟨fun k j q => (h'.1 k j q).trans (h.1 k j q), fun k j q => (h'.2.1 k j q).trans (h.2.1 k j q), h'.2.2.trans h.2.2⟩
theorem FrR.refl (p : Nat) (S : aw_S) : FrR p S S := ⟨fun _ _ _ => rfl, fun _ _ _ => rfl, rfl⟩
theorem FrU.thenC {c p : Nat} {S S' : aw_S} (h : FrU S S') (v : Int32) : FrC c p S (aw_uI S' c p v) := by
  refine ⟨fun k j q => ?_, h.2.1, h.2.2⟩
  rw [uI_at]
  by_cases z : k = c
  · rw [if_pos z, if_neg (fun y => q (Or.inr ⟨z, y⟩)), ← z]
    exact h.1 k j (fun y => q (Or.inl y))
  · rw [if_neg z]
    exact h.1 k j (fun y => q (Or.inl y))
theorem FrC.thenU {c p : Nat} {S S' S'' : aw_S} (h : FrC c p S S') (h' : FrU S' S'') : FrC c p S S'' := ⟨fun k j q => (h'.1 k j (fun z => q (Or.inl z))).trans (h.1 k j q), fun k j q => (h'.2.1 k j q).trans (h.2.1 k j q), h'.2.2.trans h.2.2⟩
theorem TcG.cell {S : aw_S} {B : Nat → Nat} {L : Nat} {t : TK} (h : TcG S B L t) {c : Nat} (p : Nat) (v : Int32) (hc : c ≠ 94 ∧ c ≠ 10) : TcG (aw_uI S c p v) B L t := h.fr (uI_ne _ _ _ (Ne.symm hc.1)) (uI_ne _ _ _ (Ne.symm hc.2)) rfl rfl rfl
/-- how the reader hangs together -/
def FcS (R : Nat → Nat → Option Nat) (b : Nat) : Prop := R 93 2 = some 94 ∧ R 93 3 = some b ∧ R 93 4 = some 87 ∧ FeS sh0 R 87 ∧ R 93 9 = some 96 ∧ GrS sh0 R b
section FTC
variable {l : Launch} {d b L p n form : Nat} {B : Nat → Nat} {S : aw_S} {t : TK} {nm : Nat → List Nat} {α : Type}
theorem sp_takeFirst {P : Int32 → aw_S → Prop} {lo hi : Nat} {x : Int32} (hx : x = nI hi - 1) (hh : hi ≤ 100) (hl0 : lo ≤ 100) (hp : p < 30) (hR : FcS S.2.2 b) (h : TcG S B L t)
    (kf : ∀ f, (∀ F : Nat → TK → RsT α, nuK B L t lo hi F = .inl f) → ∀ S', FrC 90 p S S' → FtC S' f → P 0 S')
    (ks : ∀ v, lo ≤ v → v < hi → (∀ F : Nat → TK → RsT α, nuK B L t lo hi F = F v (tkF B L t.e)) → ∀ S', FrC 90 p S S' → S'.1 90 p = nI v → TcG S' B L (tkF B L t.e) → P 1 S') : Sp l m_Re_takeFirst (d + 4) 0 0 [.ref 93, .int (nI p), .int (nI lo), .int x] sh0 S (gI sh0 P) := by
  refine e_Re_takeFirst rfl ⟨94, hR.1, rfl, sp_takeNumber (α := α) hx hh hl0 h (fun f hf S1 F T => ⟨87, by rw [F.2.2]; exact hR.2.2.1, rfl, 90, by rw [F.2.2]; exact hR.2.2.2.1.2.1.2.2.1, 30, rfl, vp_in_nI hp (by omega), fun _ => ?_, fun y => absurd rfl y⟩) (fun v v1 v2 hv S1 F T => ⟨87, by rw [F.2.2]; exact hR.2.2.1, rfl, 90, by rw [F.2.2]; exact hR.2.2.2.1.2.1.2.2.1, 30, rfl, vp_in_nI hp (by omega), fun y => absurd y (nI_ne_m1 (by omega)), fun _ => ?_⟩)⟩
  · rw [nI_clamp (by omega)]
    refine kf f hf _ (F.thenC _) ?_
    unfold FtC
    rw [uI_ne _ _ _ (by decide)]
    exact T
  · rw [nI_clamp (by omega)]
    exact ks v v1 v2 hv _ (F.thenC _) (by rw [uI_at, if_pos rfl, if_pos rfl]) (T.cell _ _ (by decide))
theorem sp_takeSecond {P : Int32 → aw_S → Prop} {lo hi : Nat} {x : Int32} (hx : x = nI hi - 1) (hh : hi ≤ 100) (hl0 : lo ≤ 100) (hp : p < 30) (hR : FcS S.2.2 b) (h : TcG S B L t)
    (kf : ∀ f, (∀ F : Nat → TK → RsT α, nuK B L t lo hi F = .inl f) → ∀ S', FrC 91 p S S' → FtC S' f → P 0 S')
    (ks : ∀ v, lo ≤ v → v < hi → (∀ F : Nat → TK → RsT α, nuK B L t lo hi F = F v (tkF B L t.e)) → ∀ S', FrC 91 p S S' → S'.1 91 p = nI v → TcG S' B L (tkF B L t.e) → P 1 S') : Sp l m_Re_takeSecond (d + 4) 0 0 [.ref 93, .int (nI p), .int (nI lo), .int x] sh0 S (gI sh0 P) := by
  refine e_Re_takeSecond rfl ⟨94, hR.1, rfl, sp_takeNumber (α := α) hx hh hl0 h (fun f hf S1 F T => ⟨87, by rw [F.2.2]; exact hR.2.2.1, rfl, 91, by rw [F.2.2]; exact hR.2.2.2.1.2.1.2.2.2.1, 30, rfl, vp_in_nI hp (by omega), fun _ => ?_, fun y => absurd rfl y⟩) (fun v v1 v2 hv S1 F T => ⟨87, by rw [F.2.2]; exact hR.2.2.1, rfl, 91, by rw [F.2.2]; exact hR.2.2.2.1.2.1.2.2.2.1, 30, rfl, vp_in_nI hp (by omega), fun y => absurd y (nI_ne_m1 (by omega)), fun _ => ?_⟩)⟩
  · rw [nI_clamp (by omega)]
    refine kf f hf _ (F.thenC _) ?_
    unfold FtC
    rw [uI_ne _ _ _ (by decide)]
    exact T
  · rw [nI_clamp (by omega)]
    exact ks v v1 v2 hv _ (F.thenC _) (by rw [uI_at, if_pos rfl, if_pos rfl]) (T.cell _ _ (by decide))
theorem sp_takeHow {P : Int32 → aw_S → Prop} (hp : p < 30) (hR : FcS S.2.2 b) (h : TcG S B L t)
    (kf : ¬ rwT B t = some 5 → ¬ rwT B t = some 6 → ∀ S', FrC 91 p S S' → FtC S' (blF 2 t) → P 0 S')
    (ks : ∀ v, (rwT B t = some 5 ∧ v = 1) ∨ (¬ rwT B t = some 5 ∧ rwT B t = some 6 ∧ v = 0) → ∀ S', FrC 91 p S S' → S'.1 91 p = nI v → TcG S' B L (tkF B L t.e) → P 1 S') : Sp l m_Re_takeHow (d + 4) 0 0 [.ref 93, .int (nI p)] sh0 S (gI sh0 P) := by
  have go : ∀ v : Nat, v < 2 → ((rwT B t = some 5 ∧ v = 1) ∨ (¬ rwT B t = some 5 ∧ rwT B t = some 6 ∧ v = 0)) → Sp l m_To_advance (d + 3) 0 0 [.ref 94] sh0 (aw_uI S 91 p (nI v)) (gV sh0 (fun S12 => P 1 S12)) := fun v hv hw => sp_advC (h.cell _ _ (by decide)) (fun S' F T => ks v hw S' (((FrU.refl S).thenC _).thenU F) (by rw [F.1 91 p (by decide), uI_at, if_pos rfl, if_pos rfl]) T)
  refine e_Re_takeHow rfl (sp_howOver hR.1 h (fun q => ⟨fun _ => ⟨87, hR.2.2.1, rfl, 91, hR.2.2.2.1.2.1.2.2.2.1, 30, rfl, vp_in_nI hp (by omega), 94, hR.1, rfl, ?_⟩, fun y => absurd y (by decide)⟩) (fun q1 q2 => ⟨fun _ => ⟨87, hR.2.2.1, rfl, 91, hR.2.2.2.1.2.1.2.2.2.1, 30, rfl, vp_in_nI hp (by omega), 94, hR.1, rfl, ?_⟩, fun y => absurd y (by decide)⟩) (fun q1 q2 => ⟨fun y => absurd rfl y, fun _ => ⟨94, hR.1, rfl, sp_blame (k0 := 2) h (fun S' F T => ⟨Or.inl rfl, kf q1 q2 S' F.C T⟩)⟩⟩))
  · rw [nI_clamp (by omega)]
    exact go 1 (by omega) (Or.inl ⟨q, rfl⟩)
  · rw [nI_clamp (by omega)]
    exact go 0 (by omega) (Or.inr ⟨q1, q2, rfl⟩)
theorem sp_takeKnown {P : Int32 → aw_S → Prop} (hp : p < 30) (hn : n ≤ 7) (hR : FcS S.2.2 b) (h0 : S.1 b 0 = nI n) (hnm : ∀ d, d < n → S.2.1 (b + 1) d = lN (p5 (nm d)) ∧ okW (nm d)) (h : TcG S B L t)
    (kf : ∀ f, (∀ F : Nat → TK → RsT α, naK B L n nm t F = .inl f) → ∀ S', FrC 90 p S S' → FtC S' f → P 0 S')
    (ks : ∀ v, v < n → (∀ F : Nat → TK → RsT α, naK B L n nm t F = F v (tkF B L t.e)) → ∀ S', FrC 90 p S S' → S'.1 90 p = nI v → TcG S' B L (tkF B L t.e) → P 1 S') : Sp l m_Re_takeKnown (d + 4) 0 0 [.ref 93, .int (nI p)] sh0 S (gI sh0 P) := by
  refine e_Re_takeKnown rfl ⟨94, hR.1, rfl, sp_isName h (fun q => ⟨fun _ => ⟨b, hR.2.1, 94, hR.1, rfl, hR.2.2.2.2.2.sa, ?_⟩, fun y => absurd y (by decide)⟩) (fun q => ⟨fun y => absurd rfl y, fun _ => ⟨94, hR.1, rfl, sp_blame (k0 := 2) h (fun S' F T => ⟨Or.inl rfl, kf _ (fun F => ?_) S' F.C T⟩)⟩⟩)⟩
  · obtain ⟨q1, q2, q3⟩ := id q
    obtain ⟨-, c2, w2, -⟩ := id h
    have ew := c2.2.2.2.1 q1
    rw [if_pos q2] at ew
    have ew : S.2.1 94 3 = lN (p5 (wdT B t)) := ew
    have ow : okW (wdT B t) := ⟨by unfold wdT; rw [wdL_len]; exact q2, wdT_in w2 q1⟩
    have q' : t.k = 1 ∧ t.e - t.b ≤ 8 ∧ rwT B t = none := q
    rw [ew]
    refine sp_named hR.2.2.2.2.2 hn h0 hnm ow ⟨fun y => ⟨87, hR.2.2.1, rfl, 90, hR.2.2.2.1.2.1.2.2.1, 30, rfl, vp_in_nI hp (by omega), 94, hR.1, rfl, ?_⟩, fun y => ⟨94, hR.1, rfl, sp_blame (k0 := 3) h (fun S' F T => ⟨Or.inl rfl, kf _ (fun F => ?_) S' F.C T⟩)⟩⟩
    · cases e : nmF nm (wdT B t) n 0 with
      | none => rw [e] at y; exact absurd rfl y
      | some v =>
        rw [nI_clamp (by omega)]
        have lt := nmF_lt n 0 v e
        refine sp_advC (h.cell _ _ (by decide)) (fun S' F T => ks v (by omega) (fun F => ?_) S' (((FrU.refl S).thenC _).thenU F) (by rw [F.1 90 p (by decide), uI_at, if_pos rfl, if_pos rfl]; rfl) T)
        unfold naK
        rw [if_pos q', e]
    · unfold naK
      rw [if_pos q', (nm_none hn).mp y]
  · unfold naK
    rw [if_neg (show ¬ (t.k = 1 ∧ t.e - t.b ≤ 8 ∧ rwT B t = none) from q)]
theorem sp_takeCompares {P : Int32 → aw_S → Prop} (hp : p < 30) (hR : FcS S.2.2 b) (h : TcG S B L t)
    (kf : ¬ (t.k = 3 ∧ ¬ B t.b = 59) → ∀ S', FrC 90 p S S' → FtC S' (blF 2 t) → P 0 S')
    (ks : t.k = 3 ∧ ¬ B t.b = 59 → ∀ S', FrC 90 p S S' → S'.1 90 p = nI (B t.b) → TcG S' B L (tkF B L t.e) → P 1 S') : Sp l m_Re_takeCompares (d + 4) 0 0 [.ref 93, .int (nI p)] sh0 S (gI sh0 P) := by
  obtain ⟨-, c, w, -⟩ := id h
  have w3 := w.2.2.1
  refine e_Re_takeCompares rfl ⟨94, hR.1, rfl, fun z => ?_, fun z => ?_⟩
  · exact sp_blame (k0 := 2) h (fun S' F T => ⟨Or.inl rfl, kf (fun q => z (by rw [c.1, q.1]; rfl)) S' F.C T⟩)
  · rw [c.1] at z
    have c2 : t.k = 3 := (nI_inj (b := 3) (by omega) (by omega)).mp z
    have e5 := c.2.2.2.2.2 c2
    have b4 := w.2.2.2.2.2.2.1 c2
    rw [e5]
    refine ⟨fun y => ⟨87, hR.2.2.1, rfl, 90, hR.2.2.2.1.2.1.2.2.1, 30, rfl, vp_in_nI hp (by omega), ?_⟩, fun y => sp_blame (k0 := 2) h (fun S' F T => ⟨Or.inl rfl, kf (fun q => q.2 ((nI_inj (b := 59) (by omega) (by omega)).mp y)) S' F.C T⟩)⟩
    rw [nI_clamp (by omega)]
    exact sp_advC (h.cell _ _ (by decide)) (fun S' F T => ks ⟨c2, fun q => y (by rw [q]; rfl)⟩ S' (((FrU.refl S).thenC _).thenU F) (by rw [F.1 90 p (by decide), uI_at, if_pos rfl, if_pos rfl]) T)
end FTC
