/-! what is taken of a text: pure, and by the class -/
abbrev RsT (α : Type) : Type := (Nat × Nat) ⊕ α
/-- a fault at a token -/
def blF (k : Nat) (t : TK) : Nat × Nat := (if t.k = 4 then 1 else k, t.b)
section TKE
variable {α : Type}
def nuK (B : Nat → Nat) (L : Nat) (t : TK) (lo hi : Nat) (f : Nat → TK → RsT α) : RsT α := if t.k = 2 then (if lo ≤ nvL B t.b (t.e - t.b) ∧ nvL B t.b (t.e - t.b) < hi then f (nvL B t.b (t.e - t.b)) (tkF B L t.e) else .inl (blF 4 t)) else .inl (blF 2 t)
def seK (B : Nat → Nat) (L : Nat) (t : TK) (f : TK → RsT α) : RsT α := if t.k = 3 ∧ B t.b = 59 then f (tkF B L t.e) else .inl (blF 2 t)
def rsK (B : Nat → Nat) (L w : Nat) (t : TK) (f : TK → RsT α) : RsT α := if rwT B t = some w then f (tkF B L t.e) else .inl (blF 2 t)
/-- a name stands here -/
def isN (B : Nat → Nat) (t : TK) : Prop := t.k = 1 ∧ t.e - t.b ≤ 8 ∧ rwT B t = none
end TKE
theorem nv_lt {B : Nat → Nat} {L : Nat} {t : TK} (w : TkW B L t) (h : t.k = 2) : nvL B t.b (t.e - t.b) < 10000 := by
  have h1 := w.2.2.2.2.2.1 h
  have h2 := nvL_lt (B := B) (s := t.b) (t.e - t.b) (fun j q1 q2 => h1.2 j q1 (by have := w.1; omega))
  have h3 : (10 : Nat) ^ (t.e - t.b) ≤ 10 ^ 4 := Nat.pow_le_pow_right (by decide) h1.1
  omega
/-- what the class's tokens keep -/
def FrU (S S' : aw_S) : Prop := (∀ k j, k ≠ 94 → S'.1 k j = S.1 k j) ∧ (∀ k j, k ≠ 94 → S'.2.1 k j = S.2.1 k j) ∧ S'.2.2 = S.2.2
theorem FrU.refl (S : aw_S) : FrU S S := ⟨fun _ _ _ => rfl, fun _ _ _ => rfl, rfl⟩
theorem FrU.trans {S S' S'' : aw_S} (h : FrU S S') (h' : FrU S' S'') : FrU S S'' := ⟨fun k j q => (h'.1 k j q).trans (h.1 k j q), fun k j q => (h'.2.1 k j q).trans (h.2.1 k j q), h'.2.2.trans h.2.2⟩
theorem FrT.U {S S' : aw_S} (h : FrT S S') : FrU S S' := ⟨fun k j q => h.1 k j (fun z => q z.1), h.2.1, h.2.2⟩
theorem FrU.uI {S S' : aw_S} (h : FrU S S') {j : Nat} (v : Int32) : FrU S (aw_uI S' 94 j v) := ⟨fun k i q => by rw [uI_ne _ _ _ q]; exact h.1 k i q, h.2.1, h.2.2⟩
/-- the class reads, without a fault so far -/
def TcG (S : aw_S) (B : Nat → Nat) (L : Nat) (t : TK) : Prop := TxC S B L ∧ TcR S B t ∧ TkW B L t ∧ S.1 94 0 = 0 ∧ S.1 94 1 = -1 ∧ RsR S
def FtC (S : aw_S) (f : Nat × Nat) : Prop := S.1 94 0 = nI f.1 ∧ S.1 94 1 = nI f.2
/-- other cells may change -/
theorem TcG.fr {S S' : aw_S} {B : Nat → Nat} {L : Nat} {t : TK} (h : TcG S B L t) (h1 : S'.1 94 = S.1 94) (h2 : S'.1 10 = S.1 10) (h3 : S'.2.1 94 = S.2.1 94) (h4 : S'.2.1 95 = S.2.1 95) (h5 : S'.2.2 = S.2.2) : TcG S' B L t := by
  obtain ⟨⟨x1, x2, x3, x4⟩, ⟨c1, c2, c3, c4, c5, c6⟩, w, f0, f1, r1, r2⟩ := h
  refine ⟨⟨by rw [h5]; exact x1, by rw [h1]; exact x2, x3, fun j hj => by rw [h2]; exact x4 j hj⟩, ⟨by rw [h1]; exact c1, by rw [h1]; exact c2, by rw [h1]; exact c3, fun z => by rw [h3]; exact c4 z, fun z => by rw [h1]; exact c5 z, fun z => by rw [h1]; exact c6 z⟩, w, by rw [h1]; exact f0, by rw [h1]; exact f1, by rw [h5]; exact r1, fun j hj => by rw [h4]; exact r2 j hj⟩
section TKC
variable {l : Launch} {d : Nat} {B : Nat → Nat} {L : Nat} {S : aw_S} {t : TK} {α : Type}
theorem sp_advC {P : aw_S → Prop} (h : TcG S B L t) (k : ∀ S', FrU S S' → TcG S' B L (tkF B L t.e) → P S') : Sp l m_To_advance (d + 1 + 1) 0 0 [.ref 94] sh0 S (gV sh0 P) := by
  obtain ⟨x, c, w, f0, f1, r⟩ := h
  refine sp_advance x c.2.2.1 w.2.1 (fun S' F T => k S' F.U ⟨x.fr F, T, (tkF_ok w.2.1).1, (F.1 94 0 (by omega)).trans f0, (F.1 94 1 (by omega)).trans f1, ?_, fun j hj => ?_⟩)
  · rw [F.2.2]; exact r.1
  · rw [F.2.1 95 j (by omega)]; exact r.2 j hj
theorem sp_blame {P : Int32 → aw_S → Prop} {k0 : Nat} (h : TcG S B L t) (k : ∀ S', FrU S S' → FtC S' (blF k0 t) → P 0 S') : Sp l m_To_blame (d + 1) 0 0 [.ref 94, .int (nI k0)] sh0 S (gI sh0 P) := by
  obtain ⟨x, c, w, f0, f1, r⟩ := h
  have w3 := w.2.2.1
  refine e_To_blame rfl ⟨fun z => absurd f0 z, fun _ => ?_⟩
  rw [c.1]
  refine ⟨fun z => k _ ((FrU.refl S).uI _ |>.uI _) ⟨?_, ?_⟩, fun z => k _ ((FrU.refl S).uI _ |>.uI _) ⟨?_, ?_⟩⟩
  · rw [uI_at, if_pos rfl, if_neg (by decide), uI_at, if_pos rfl, if_pos rfl]
    unfold blF
    rw [if_neg (fun y => z (by rw [y]; rfl))]
  · rw [uI_at, if_pos rfl, if_pos rfl, uI_at, if_pos rfl, if_neg (by decide)]
    exact c.2.1
  · rw [uI_at, if_pos rfl, if_neg (by decide), uI_at, if_pos rfl, if_pos rfl]
    unfold blF
    rw [if_pos ((nI_inj (b := 4) (by omega) (by omega)).mp z)]
    rfl
  · rw [uI_at, if_pos rfl, if_pos rfl, uI_at, if_pos rfl, if_neg (by decide)]
    exact c.2.1
theorem sp_takeNumber {P : Int32 → aw_S → Prop} {lo hi : Nat} {x : Int32} (hx : x = nI hi - 1) (hh : hi ≤ 100) (hl0 : lo ≤ 100) (h : TcG S B L t)
    (kf : ∀ f, (∀ F : Nat → TK → RsT α, nuK B L t lo hi F = .inl f) → ∀ S', FrU S S' → FtC S' f → P (-1) S')
    (ks : ∀ v, lo ≤ v → v < hi → (∀ F : Nat → TK → RsT α, nuK B L t lo hi F = F v (tkF B L t.e)) → ∀ S', FrU S S' → TcG S' B L (tkF B L t.e) → P (nI v) S') : Sp l m_To_takeNumber (d + 1 + 1 + 1) 0 0 [.ref 94, .int (nI lo), .int x] sh0 S (gI sh0 P) := by
  obtain ⟨-, c, w, -⟩ := id h
  have w3 := w.2.2.1
  refine e_To_takeNumber rfl ⟨fun z => ?_, fun z => ?_⟩
  · rw [c.1] at z
    have c2 : t.k = 2 := (nI_inj (b := 2) (by omega) (by omega)).mp z
    have e4 := c.2.2.2.2.1 c2
    have lt := nv_lt w c2
    rw [e4]
    refine sp_isWithin ?_
    by_cases q : lo ≤ nvL B t.b (t.e - t.b) ∧ nvL B t.b (t.e - t.b) < hi
    · have q2 : nI lo ≤ nI (nvL B t.b (t.e - t.b)) ∧ nI (nvL B t.b (t.e - t.b)) ≤ x := by
        refine ⟨nI_le q.1 (by omega), ?_⟩
        rw [hx, show hi = hi - 1 + 1 by omega, nI_pred]
        exact nI_le (by omega) (by omega)
      rw [if_pos q2]
      refine ⟨fun _ => sp_advC h (fun S' F T => ?_), fun y => absurd y (by decide)⟩
      rw [e4]
      refine ks _ q.1 q.2 (fun F => ?_) S' F T
      unfold nuK
      rw [if_pos c2, if_pos q]
    · have q2 : ¬ (nI lo ≤ nI (nvL B t.b (t.e - t.b)) ∧ nI (nvL B t.b (t.e - t.b)) ≤ x) := by
        intro y
        apply q
        by_cases hl : lo ≤ nvL B t.b (t.e - t.b)
        · refine ⟨hl, ?_⟩
          by_cases h0 : hi = 0
          · have y2 := y.2
            rw [hx, h0, iM_0] at y2
            exact absurd y2 (i_neg m1_lt _ (by omega)).2.2.2
          · have y2 := y.2
            rw [hx, show hi = hi - 1 + 1 by omega, nI_pred] at y2
            have := (nI_leI (by omega) (by omega)).mp y2
            omega
        · exfalso
          exact hl ((nI_leI (by omega) (by omega)).mp y.1)
      rw [if_neg q2]
      refine ⟨fun y => absurd rfl y, fun _ => sp_blame (k0 := 4) h (fun S' F T => kf _ (fun F => ?_) S' F T)⟩
      unfold nuK
      rw [if_pos c2, if_neg q]
  · have c2 : ¬ t.k = 2 := fun y => z (by rw [c.1, y]; rfl)
    refine sp_blame (k0 := 2) h (fun S' F T => kf _ (fun F => ?_) S' F T)
    unfold nuK
    rw [if_neg c2]
theorem sp_semi {P : Int32 → aw_S → Prop} (h : TcG S B L t)
    (kf : ∀ f, (∀ F : TK → RsT α, seK B L t F = .inl f) → ∀ S', FrU S S' → FtC S' f → P 0 S')
    (ks : (∀ F : TK → RsT α, seK B L t F = F (tkF B L t.e)) → ∀ S', FrU S S' → TcG S' B L (tkF B L t.e) → P 1 S') : Sp l m_To_takeSemicolon (d + 1 + 1 + 1) 0 0 [.ref 94] sh0 S (gI sh0 P) := by
  obtain ⟨-, c, w, -⟩ := id h
  have w3 := w.2.2.1
  refine e_To_takeSemicolon rfl ⟨fun z => ?_, fun z => ?_⟩
  · have c2 : ¬ t.k = 3 := fun y => z (by rw [c.1, y]; rfl)
    refine sp_blame (k0 := 2) h (fun S' F T => ⟨Or.inl rfl, kf _ (fun F => ?_) S' F T⟩)
    unfold seK
    rw [if_neg (fun y => c2 y.1)]
  · rw [c.1] at z
    have c2 : t.k = 3 := (nI_inj (b := 3) (by omega) (by omega)).mp z
    have e5 := c.2.2.2.2.2 c2
    have b4 := w.2.2.2.2.2.2.1 c2
    rw [e5]
    refine ⟨fun y => sp_advC h (fun S' F T => ks (fun F => ?_) S' F T), fun y => sp_blame (k0 := 2) h (fun S' F T => ⟨Or.inl rfl, kf _ (fun F => ?_) S' F T⟩)⟩
    · unfold seK
      rw [if_pos ⟨c2, (nI_inj (b := 59) (by omega) (by omega)).mp y⟩]
    · unfold seK
      rw [if_neg (fun q => y (by rw [q.2]; rfl))]
theorem oI_inj {o : Option Nat} {w : Nat} (ho : ∀ i, o = some i → i < 2 ^ 31) (hw : w < 2 ^ 31) : oI o = nI w ↔ o = some w := by
  cases o with
  | none => exact ⟨fun z => absurd z.symm (nI_ne_m1 hw), fun z => by cases z⟩
  | some i =>
    have := ho i rfl
    exact ⟨fun z => by rw [(nI_inj this hw).mp z], fun z => by rw [Option.some.inj z]; rfl⟩
theorem rwT_lt {t : TK} {i : Nat} (h : rwT B t = some i) : i < 19 ∧ t.k = 1 ∧ kwN i = wdT B t := by
  unfold rwT at h
  by_cases c : t.k = 1
  · rw [if_pos c] at h
    have := rw_lt h
    exact ⟨this.1, c, this.2⟩
  · rw [if_neg c] at h
    cases h
theorem oI_rw {w : Nat} (hw : w < 2 ^ 31) : oI (rwT B t) = nI w ↔ rwT B t = some w := oI_inj (fun i hi => by have := (rwT_lt hi).1; omega) hw
theorem sp_takeReserved {P : Int32 → aw_S → Prop} {w0 : Nat} (hw : w0 < 19) (h : TcG S B L t)
    (kf : ∀ f, (∀ F : TK → RsT α, rsK B L w0 t F = .inl f) → ∀ S', FrU S S' → FtC S' f → P 0 S')
    (ks : (∀ F : TK → RsT α, rsK B L w0 t F = F (tkF B L t.e)) → ∀ S', FrU S S' → TcG S' B L (tkF B L t.e) → P 1 S') : Sp l m_To_takeReserved (d + 1 + 1 + 1) 0 0 [.ref 94, .int (nI w0)] sh0 S (gI sh0 P) := by
  obtain ⟨-, c, w, -, -, r⟩ := id h
  refine e_To_takeReserved rfl (sp_reserved r w c ⟨fun z => sp_advC h (fun S' F T => ks (fun F => ?_) S' F T), fun z => sp_blame (k0 := 2) h (fun S' F T => ⟨Or.inl rfl, kf _ (fun F => ?_) S' F T⟩)⟩)
  · unfold rsK
    rw [if_pos ((oI_rw (by omega)).mp z)]
  · unfold rsK
    rw [if_neg (fun y => z ((oI_rw (by omega)).mpr y))]
theorem sp_isName {P : Int32 → aw_S → Prop} (h : TcG S B L t) (k1 : isN B t → P 1 S) (k0 : ¬ isN B t → P 0 S) : Sp l m_To_isName (d + 1 + 1) 0 0 [.ref 94] sh0 S (gI sh0 P) := by
  obtain ⟨-, c, w, -, -, r⟩ := id h
  have w3 := w.2.2.1
  refine e_To_isName rfl ⟨fun z => k0 (fun y => z (by rw [c.1, y.1]; rfl)), fun z => ?_⟩
  rw [c.1] at z
  have c1 : t.k = 1 := (nI_inj (b := 1) (by omega) (by omega)).mp z
  have e3 := c.2.2.2.1 c1
  have len : (wdT B t).length = t.e - t.b := wdL_len _ _ _
  have lt := w.2.2.2.1 (by omega)
  rw [e3, lg_eqv]
  refine ⟨fun y => k0 (fun q => ?_), fun y => sp_reserved r w c ⟨fun q => k0 (fun q2 => q (by rw [q2.2.2]; rfl)), fun q => k1 ⟨c1, ?_, ?_⟩⟩⟩
  · rw [if_pos q.2.1] at y
    have p0 := p5_pos (w := wdT B t) (by omega) (wdT_in w c1)
    have p1 := p5_40 (w := wdT B t) (by have := q.2.1; omega) (wdT_in w c1)
    have : p5 (wdT B t) = 0 := (pk_lEQ (b := 0) (by omega) (by omega)).mp y
    omega
  · apply Classical.byContradiction
    intro q2
    exact y (by rw [if_neg q2]; rfl)
  · cases e : rwT B t with
    | none => rfl
    | some i =>
      rw [e] at q
      exact absurd q (nI_ne_m1 (by have := (rwT_lt e).1; omega))
end TKC
