/-! the class's PASSES: a pass comes to the plait, or goes -/
def iN (x d : Nat) : Nat := if x / 16 % 8 = d ∨ x / 128 % 8 = d then 1 else 0
theorem us_s (f : Nat → Nat) (d m : Nat) : usN f d (m + 1) = usN f d m + iN (f m) d := rfl
theorem us_cong {f h : Nat → Nat} {d m : Nat} (e : ∀ i, i < m → f i = h i) : usN f d m = usN h d m := by
  induction m with
  | zero => rfl
  | succ m ih => rw [us_s, us_s, ih (fun i hi => e i (by omega)), e m (by omega)]
theorem us_rem {f : Nat → Nat} {d k m : Nat} (hk : k ≤ m) : usN (remF f k) d m + iN (f k) d = usN f d (m + 1) := by
  induction hk with
  | refl =>
    rw [us_s, us_cong (f := remF f k) (h := f) (fun i hi => by unfold remF; rw [if_pos hi])]
  | @step m hm ih =>
    have hm : k ≤ m := hm
    rw [us_s, us_s f d (m + 1), ← ih, show remF f k m = f (m + 1) by unfold remF; rw [if_neg (by omega)]]
    omega
theorem us_ins {f : Nat → Nat} {d k v m : Nat} (hk : k ≤ m) : usN (insF f k v) d (m + 1) = usN f d m + iN v d := by
  induction hk with
  | refl =>
    rw [us_s, us_cong (f := insF f k v) (h := f) (fun i hi => by unfold insF; rw [if_pos hi]), show insF f k v k = v by unfold insF; rw [if_neg (by omega), if_pos rfl]]
  | @step m hm ih =>
    have hm : k ≤ m := hm
    rw [us_s, ih, us_s f d m, show insF f k v (m + 1) = f m by unfold insF; rw [if_neg (by omega), if_neg (by omega)]; rfl]
    omega
theorem insF_k (f : Nat → Nat) (k v : Nat) : insF f k v k = v := by
  unfold insF
  rw [if_neg (by omega), if_pos rfl]
theorem PlA.fr {sh : aw_SH} {S S' : aw_S} {a r cap m : Nat} {f : Nat → Nat} (H : PlA sh S a r cap m f) (h1 : S'.1 a 1 = S.1 a 1) (h2 : S'.1 r = S.1 r) (h3 : S'.2.2 = S.2.2) : PlA sh S' a r cap m f := by
  unfold PlA at H ⊢
  rw [h1, h2, h3]
  exact H
theorem cpi_at (S : aw_S) (k1 k2 : Nat) (sp dp n : Int32) (c i : Nat) : (aw_cpi S k1 k2 sp dp n).1 c i = if c = k2 then va_cpy (S.1 k1) (S.1 k2) sp.toNatClampNeg dp.toNatClampNeg n.toNatClampNeg i else S.1 c i := by
  by_cases h : c = k2
  · subst h; simp [aw_cpi, va_up]
  · simp [aw_cpi, va_up, h]
theorem cpi_2 (S : aw_S) (k1 k2 : Nat) (sp dp n : Int32) : (aw_cpi S k1 k2 sp dp n).2 = S.2 := rfl
section PS
variable {l : Launch} {d : Nat} {sh : aw_SH} {S : aw_S} {a : Nat} {g : GM}
theorem sp_Pl_insert {P : aw_S → Prop} {r cap m k v : Nat} {f : Nat → Nat} (H : PlA sh S a r cap m f) (har : a ≠ r) (hk : k ≤ m) (hm : m < cap) (hv : v < 1024) (h : ∀ S', FrI (fun c i => (c = a ∧ i = 1) ∨ c = r) S S' → PlA sh S' a r cap (m + 1) (insF f k v) → P S') : Sp l m_Pl_insert (d + 1) 0 0 [.ref a, .int (nI k), .int (nI v)] sh S (gV sh P) := by
  obtain ⟨sa, hr, sr, hm0, hc, hcap, hf⟩ := id H
  refine e_Pl_insert sa ⟨fun q => absurd q (nI_pos (by omega)), fun _ => ?_⟩
  rw [hm0]
  refine ⟨fun q => absurd q (nI_nlt hk (by omega)), fun _ => ⟨r, hr, cap, sr, fun _ => ?_, fun q => absurd (nI_lt hm (by omega)) q⟩⟩
  rw [pk_sub hk, nI_1, nI_clamp (by omega), nI_clamp (by omega), nI_clamp (by omega)]
  refine ⟨nI_pos (by omega), nI_pos (by omega), nI_pos (by omega), by omega, by omega, vp_in_nI (by omega) (by omega), h _ ?_ ⟨sa, hr, sr, ?_, hm, hcap, ?_⟩⟩
  · have F : FrI (fun c i => (c = a ∧ i = 1) ∨ c = r) S (aw_cpi S r r (nI k) (nI (k + 1)) (nI (m - k))) := by
      refine ⟨fun c i q => ?_, rfl⟩
      rw [cpi_at, if_neg (fun z => q (Or.inr z))]
    exact (F.uI _ (Or.inr rfl)).uI _ (Or.inl ⟨rfl, rfl⟩)
  · rw [uI_at, if_pos rfl, if_pos rfl, uI_ne _ _ _ har, cpi_at, if_neg har, hm0, nI_1]
  · intro i hi
    have e : ∀ w, (aw_uI (aw_uI (aw_cpi S r r (nI k) (nI (k + 1)) (nI (m - k))) r k (nI v)) a 1 w).1 r i = if i = k then nI v else va_cpy (S.1 r) (S.1 r) k (k + 1) (m - k) i := by
      intro w
      rw [uI_ne _ _ _ (fun z => har z.symm), uI_at, if_pos rfl, cpi_at, if_pos rfl, nI_clamp (by omega), nI_clamp (by omega), nI_clamp (by omega)]
    rw [e]
    unfold insF
    by_cases c1 : i < k
    · rw [if_neg (by omega), if_pos c1, pk_cpy_out (by omega)]
      exact hf i (by omega)
    · by_cases c2 : i = k
      · rw [if_pos c2, if_neg c1, if_pos c2]
        exact ⟨rfl, hv⟩
      · rw [if_neg c2, if_neg c1, if_neg c2, pk_cpy_in (by omega) (by omega), show k + (i - (k + 1)) = i - 1 by omega]
        exact hf (i - 1) (by omega)
theorem sp_Pl_remove {P : aw_S → Prop} {r cap m k : Nat} {f : Nat → Nat} (H : PlA sh S a r cap m f) (har : a ≠ r) (hk : k < m) (h : ∀ S', FrI (fun c i => (c = a ∧ i = 1) ∨ c = r) S S' → PlA sh S' a r cap (m - 1) (remF f k) → P S') : Sp l m_Pl_remove (d + 1) 0 0 [.ref a, .int (nI k)] sh S (gV sh P) := by
  obtain ⟨sa, hr, sr, hm0, hc, hcap, hf⟩ := id H
  have e0 : (aw_uI S a 1 (S.1 a 1 - 1)).1 a 1 = nI (m - 1) := by
    rw [uI_at, if_pos rfl, if_pos rfl, hm0, show m = m - 1 + 1 by omega, nI_pred]
    rfl
  refine e_Pl_remove sa ⟨fun q => absurd q (nI_pos (by omega)), fun _ => ⟨fun _ => ⟨r, hr, cap, sr, ?_⟩, fun q => absurd (by rw [hm0]; exact nI_lt hk (by omega)) q⟩⟩
  rw [e0, pk_sub (show k ≤ m - 1 by omega), nI_1, nI_clamp (by omega), nI_clamp (by omega), nI_clamp (by omega)]
  refine ⟨nI_pos (by omega), nI_pos (by omega), nI_pos (by omega), by omega, by omega, h _ ?_ ⟨sa, hr, sr, ?_, by omega, hcap, ?_⟩⟩
  · refine ⟨fun c i q => ?_, rfl⟩
    rw [cpi_at, if_neg (fun z => q (Or.inr z))]
    exact ((FrI.refl (fun c i => (c = a ∧ i = 1) ∨ c = r) S).uI _ (Or.inl ⟨rfl, rfl⟩)).1 c i q
  · rw [cpi_at, if_neg har, e0]
  · intro i hi
    rw [cpi_at, if_pos rfl, nI_clamp (by omega), nI_clamp (by omega), nI_clamp (by omega), uI_ne _ _ _ (fun z => har z.symm)]
    unfold remF
    by_cases c1 : i < k
    · rw [if_pos c1, pk_cpy_out (by omega)]
      exact hf i (by omega)
    · rw [if_neg c1, pk_cpy_in (by omega) (by omega), show k + 1 + (i - k) = i + 1 by omega]
      exact hf (i + 1) (by omega)
theorem GrG.pl (hS : GrS sh S.2.2 a) (hb : bdG g) (H : GrG S.1 a g) : PlA sh S (a + 6) (a + 7) 40 g.m g.f := ⟨hS.s6, hS.rp, hS.s7, H.2.2.2.1, hb.2.2.2.2.1, by decide, fun k hk => ⟨H.2.2.2.2.1 k hk, (hb.2.2.2.2.2.1 k hk).1⟩⟩
/-- a pass's own bounds -/
def okP (n v : Nat) : Prop := v < 1024 ∧ v % 8 < gpN n ∧ v / 16 % 8 < n ∧ v / 128 % 8 < n ∧ v / 16 % 8 ≠ v / 128 % 8
theorem bdG.sw {n : Nat} {std : Nat → Nat} {gap : Nat} (hg : gap < n) (h1 : ∀ p, p < n → std p < n) (h2 : ∀ p q, p < n → q < n → std p = std q → p = q) : (∀ p, p < n → swS n std gap p < n) ∧ (∀ p q, p < n → q < n → swS n std gap p = swS n std gap q → p = q) := by
  have hx := nx_lt (n := n) (p := gap) (by omega)
  refine ⟨fun p hp => ?_, fun p q hp hq => ?_⟩
  · unfold swS
    split
    · exact h1 _ hx
    · split
      · exact h1 _ hg
      · exact h1 _ hp
  · unfold swS
    have a1 := h2 p q hp hq
    have a2 := h2 p gap hp hg
    have a3 := h2 p (nx n gap) hp hx
    have a4 := h2 gap q hg hq
    have a5 := h2 (nx n gap) q hx hq
    have a6 := h2 gap (nx n gap) hg hx
    have a7 := h2 (nx n gap) gap hx hg
    split <;> split <;> (try split) <;> (try split) <;> omega
theorem bdG.ins {k v : Nat} (hb : bdG g) (hm : g.m < 40) (hv : okP g.n v) (hk : k ≤ g.m) : bdG (inG g k v) := by
  obtain ⟨b1, b2, b3, b4, b5, b6, b7, b8, b9⟩ := hb
  have h3 := gp_le g.n
  obtain ⟨w1, w2⟩ := bdG.sw (n := g.n) (std := g.std) (gap := v % 8) (by have := hv.2.1; omega) b8 b9
  refine ⟨b1, b2, b3, b4, hm, fun i hi => ?_, b7, w1, w2⟩
  have hi : i < g.m + 1 := hi
  show okP g.n (insF g.f k v i)
  unfold insF
  by_cases c1 : i < k
  · rw [if_pos c1]
    exact b6 i (by omega)
  · rw [if_neg c1]
    by_cases c2 : i = k
    · rw [if_pos c2]
      exact hv
    · rw [if_neg c2]
      exact b6 (i - 1) (by omega)
theorem bdG.rem {k : Nat} (hb : bdG g) (hk : k < g.m) : bdG (rmG g k) := by
  obtain ⟨b1, b2, b3, b4, b5, b6, b7, b8, b9⟩ := hb
  have h3 := gp_le g.n
  obtain ⟨w1, w2⟩ := bdG.sw (n := g.n) (std := g.std) (gap := g.f k % 8) (by have := (b6 k hk).2.1; omega) b8 b9
  refine ⟨b1, b2, b3, b4, Nat.le_trans (Nat.sub_le _ _) b5, fun i hi => ?_, b7, w1, w2⟩
  have hi : i < g.m - 1 := hi
  show okP g.n (remF g.f k i)
  unfold remF
  by_cases c1 : i < k
  · rw [if_pos c1]
    exact b6 i (by omega)
  · rw [if_neg c1]
    exact b6 (i + 1) (by omega)
theorem sp_Gr_insertPass {P : aw_S → Prop} {k v : Nat} (hS : GrS sh S.2.2 a) (hb : bdG g) (H : GrG S.1 a g) (hk : k ≤ g.m) (hm : g.m < 40) (hv : okP g.n v) (h : ∀ S', FrI (GX a) S S' → S'.1 a = S.1 a → GrG S'.1 a (inG g k v) → P S') : Sp l m_Gr_insertPass (d + 1 + 1 + 1) 0 0 [.ref a, .int (nI k), .int (nI v)] sh S (gV sh P) := by
  have hn : g.n ≤ 7 := hb.1
  obtain ⟨v1, v2, v3, v4, v5⟩ := hv
  obtain ⟨z0, z1, z2, z3, z4, z5, z6, z7⟩ := id H
  refine e_Gr_insertPass hS.sa ⟨a + 6, hS.r10, hS.s6, sp_Pl_insert (H.pl hS hb) (by omega) hk hm v1 (fun S1 F1 A1 => ?_)⟩
  have R1 := F1.R
  have c4 : S1.1 (a + 4) = S.1 (a + 4) := F1.cell (fun j => by omega)
  refine ⟨a + 4, by rw [R1]; exact hS.r8, a + 6, by rw [R1]; exact hS.r10, hS.s6, sp_Pl_upperAt A1 (by omega) ?_⟩
  rw [insF_k, nI_clamp (by omega)]
  refine ⟨7, hS.s4, vp_in_nI (by omega) (by omega), vp_in_nI (by omega) (by omega), a + 4, by rw [uI_R, R1]; exact hS.r8, a + 6, by rw [uI_R, R1]; exact hS.r10, hS.s6, sp_Pl_lowerAt (A1.fr (by rw [uI_ne _ _ _ (by omega)]) (by rw [uI_ne _ _ _ (by omega)]) rfl) (by omega) ?_⟩
  rw [insF_k, nI_clamp (by omega)]
  refine ⟨7, hS.s4, vp_in_nI (by omega) (by omega), vp_in_nI (by omega) (by omega), a + 6, by rw [uI_R, uI_R, R1]; exact hS.r10, hS.s6, sp_Pl_gapAt (A1.fr (by rw [uI_ne _ _ _ (by omega), uI_ne _ _ _ (by omega)]) (by rw [uI_ne _ _ _ (by omega), uI_ne _ _ _ (by omega)]) rfl) (by omega) ?_⟩
  rw [insF_k]
  have F2 : FrI (GX a) S (aw_uI (aw_uI S1 (a + 4) (v / 16 % 8) (S1.1 (a + 4) (v / 16 % 8) + 1)) (a + 4) (v / 128 % 8) ((aw_uI S1 (a + 4) (v / 16 % 8) (S1.1 (a + 4) (v / 16 % 8) + 1)).1 (a + 4) (v / 128 % 8) + 1)) := ((F1.mono (fun c i q => by unfold GX; omega)).uI _ (by unfold GX; omega)).uI _ (by unfold GX; omega)
  have F3 : FrI (fun c i => c = a + 4 ∨ (c = a + 6 ∧ i = 1) ∨ c = a + 7) S (aw_uI (aw_uI S1 (a + 4) (v / 16 % 8) (S1.1 (a + 4) (v / 16 % 8) + 1)) (a + 4) (v / 128 % 8) ((aw_uI S1 (a + 4) (v / 16 % 8) (S1.1 (a + 4) (v / 16 % 8) + 1)).1 (a + 4) (v / 128 % 8) + 1)) := ((F1.mono (fun c i q => by omega)).uI _ (Or.inl rfl)).uI _ (Or.inl rfl)
  have U : ∀ w, w < g.n → (aw_uI (aw_uI S1 (a + 4) (v / 16 % 8) (S1.1 (a + 4) (v / 16 % 8) + 1)) (a + 4) (v / 128 % 8) ((aw_uI S1 (a + 4) (v / 16 % 8) (S1.1 (a + 4) (v / 16 % 8) + 1)).1 (a + 4) (v / 128 % 8) + 1)).1 (a + 4) w = nI (usN (insF g.f k v) w (g.m + 1)) := by
    intro w hw
    rw [us_ins hk]
    simp only [uI_at, if_true]
    rw [if_neg (show ¬ v / 128 % 8 = v / 16 % 8 from fun z => v5 z.symm), c4]
    unfold iN
    by_cases e1 : w = v / 128 % 8
    · rw [if_pos e1, if_pos (Or.inr e1.symm), ← e1, z7 w hw, nI_1]
    · rw [if_neg e1]
      by_cases e2 : w = v / 16 % 8
      · rw [if_pos e2, if_pos (Or.inl e2.symm), ← e2, z7 w hw, nI_1]
      · rw [if_neg e2, if_neg (fun z => z.elim (fun q => e2 q.symm) (fun q => e1 q.symm)), z7 w hw, Nat.add_zero]
  have A2 : PlA sh (aw_uI (aw_uI S1 (a + 4) (v / 16 % 8) (S1.1 (a + 4) (v / 16 % 8) + 1)) (a + 4) (v / 128 % 8) ((aw_uI S1 (a + 4) (v / 16 % 8) (S1.1 (a + 4) (v / 16 % 8) + 1)).1 (a + 4) (v / 128 % 8) + 1)) (a + 6) (a + 7) 40 (g.m + 1) (insF g.f k v) := A1.fr (by rw [uI_ne _ _ _ (by omega), uI_ne _ _ _ (by omega)]) (by rw [uI_ne _ _ _ (by omega), uI_ne _ _ _ (by omega)]) rfl
  revert F2 F3 U A2
  generalize aw_uI (aw_uI S1 (a + 4) (v / 16 % 8) (S1.1 (a + 4) (v / 16 % 8) + 1)) (a + 4) (v / 128 % 8) ((aw_uI S1 (a + 4) (v / 16 % 8) (S1.1 (a + 4) (v / 16 % 8) + 1)).1 (a + 4) (v / 128 % 8) + 1) = S2
  intro F2 F3 U A2
  have R2 : S2.2.2 = S.2.2 := F2.R
  refine sp_Gr_changePlaces (n := g.n) (std := g.std) (by rw [R2]; exact hS) hn v2 (by rw [F3.cell (k := a) (fun j => by omega)]; exact z0) hb.2.2.2.2.2.2.2.1 hb.2.2.2.2.2.2.2.2 (by rw [F3.cell (k := a + 5) (fun j => by omega), F3.cell (k := a + 3) (fun j => by omega)]; exact z6) (fun S3 F4 W => ?_)
  have ea : S3.1 a = S.1 a := (F4.cell (fun j => by omega)).trans (F3.cell (fun j => by omega))
  refine h S3 (F2.trans (F4.mono (fun c i q => by unfold GX; omega))) ea ?_
  have P6 : S3.1 (a + 6) = S2.1 (a + 6) := F4.cell (fun j => by omega)
  have P7 : S3.1 (a + 7) = S2.1 (a + 7) := F4.cell (fun j => by omega)
  have P4 : S3.1 (a + 4) = S2.1 (a + 4) := F4.cell (fun j => by omega)
  have P2 : S3.1 (a + 2) = S.1 (a + 2) := (F4.cell (fun j => by omega)).trans (F3.cell (fun j => by omega))
  refine ⟨by rw [ea]; exact z0, by rw [ea]; exact z1, by rw [ea]; exact z2, by rw [P6]; exact A2.2.2.2.1, fun i hi => by rw [P7]; exact (A2.2.2.2.2.2.2 i hi).1, fun c hc => by rw [P2]; exact z5 c hc, W, fun w hw => by rw [P4]; exact U w hw⟩
theorem sp_Gr_removePass {P : aw_S → Prop} {k : Nat} (hS : GrS sh S.2.2 a) (hb : bdG g) (H : GrG S.1 a g) (hk : k < g.m) (h : ∀ S', FrI (GX a) S S' → S'.1 a = S.1 a → GrG S'.1 a (rmG g k) → P S') : Sp l m_Gr_removePass (d + 1 + 1 + 1) 0 0 [.ref a, .int (nI k)] sh S (gV sh P) := by
  have hn : g.n ≤ 7 := hb.1
  obtain ⟨v1, v2, v3, v4, v5⟩ := hb.2.2.2.2.2.1 k hk
  obtain ⟨z0, z1, z2, z3, z4, z5, z6, z7⟩ := id H
  have A1 := H.pl hS hb
  have hm : g.m ≤ 40 := hb.2.2.2.2.1
  refine e_Gr_removePass hS.sa ⟨a + 4, hS.r8, a + 6, hS.r10, hS.s6, sp_Pl_upperAt A1 hk ?_⟩
  rw [nI_clamp (by omega)]
  refine ⟨7, hS.s4, vp_in_nI (by omega) (by omega), vp_in_nI (by omega) (by omega), a + 4, hS.r8, a + 6, hS.r10, hS.s6, sp_Pl_lowerAt (A1.fr (by rw [uI_ne _ _ _ (by omega)]) (by rw [uI_ne _ _ _ (by omega)]) rfl) hk ?_⟩
  rw [nI_clamp (by omega)]
  refine ⟨7, hS.s4, vp_in_nI (by omega) (by omega), vp_in_nI (by omega) (by omega), a + 6, hS.r10, hS.s6, sp_Pl_gapAt (A1.fr (by rw [uI_ne _ _ _ (by omega), uI_ne _ _ _ (by omega)]) (by rw [uI_ne _ _ _ (by omega), uI_ne _ _ _ (by omega)]) rfl) hk ?_⟩
  have F3 : FrI (fun c i => c = a + 4) S (aw_uI (aw_uI S (a + 4) (g.f k / 16 % 8) (S.1 (a + 4) (g.f k / 16 % 8) - 1)) (a + 4) (g.f k / 128 % 8) ((aw_uI S (a + 4) (g.f k / 16 % 8) (S.1 (a + 4) (g.f k / 16 % 8) - 1)).1 (a + 4) (g.f k / 128 % 8) - 1)) := ((FrI.refl (fun c _ => c = a + 4) S).uI _ rfl).uI _ rfl
  have U : ∀ w, w < g.n → (aw_uI (aw_uI S (a + 4) (g.f k / 16 % 8) (S.1 (a + 4) (g.f k / 16 % 8) - 1)) (a + 4) (g.f k / 128 % 8) ((aw_uI S (a + 4) (g.f k / 16 % 8) (S.1 (a + 4) (g.f k / 16 % 8) - 1)).1 (a + 4) (g.f k / 128 % 8) - 1)).1 (a + 4) w = nI (usN (remF g.f k) w (g.m - 1)) := by
    intro w hw
    have e := us_rem (f := g.f) (d := w) (k := k) (m := g.m - 1) (by omega)
    rw [show g.m - 1 + 1 = g.m by omega] at e
    simp only [uI_at, if_true]
    rw [if_neg (show ¬ g.f k / 128 % 8 = g.f k / 16 % 8 from fun z => v5 z.symm)]
    unfold iN at e
    by_cases e1 : w = g.f k / 128 % 8
    · rw [if_pos (Or.inr e1.symm)] at e
      rw [if_pos e1, ← e1, z7 w hw, ← e, nI_pred]
    · rw [if_neg e1]
      by_cases e2 : w = g.f k / 16 % 8
      · rw [if_pos (Or.inl e2.symm)] at e
        rw [if_pos e2, ← e2, z7 w hw, ← e, nI_pred]
      · rw [if_neg (fun z => z.elim (fun q => e2 q.symm) (fun q => e1 q.symm)), Nat.add_zero] at e
        rw [if_neg e2, z7 w hw, ← e]
  have A2 : PlA sh (aw_uI (aw_uI S (a + 4) (g.f k / 16 % 8) (S.1 (a + 4) (g.f k / 16 % 8) - 1)) (a + 4) (g.f k / 128 % 8) ((aw_uI S (a + 4) (g.f k / 16 % 8) (S.1 (a + 4) (g.f k / 16 % 8) - 1)).1 (a + 4) (g.f k / 128 % 8) - 1)) (a + 6) (a + 7) 40 g.m g.f := A1.fr (by rw [uI_ne _ _ _ (by omega), uI_ne _ _ _ (by omega)]) (by rw [uI_ne _ _ _ (by omega), uI_ne _ _ _ (by omega)]) rfl
  revert F3 U A2
  generalize aw_uI (aw_uI S (a + 4) (g.f k / 16 % 8) (S.1 (a + 4) (g.f k / 16 % 8) - 1)) (a + 4) (g.f k / 128 % 8) ((aw_uI S (a + 4) (g.f k / 16 % 8) (S.1 (a + 4) (g.f k / 16 % 8) - 1)).1 (a + 4) (g.f k / 128 % 8) - 1) = S2
  intro F3 U A2
  have R2 : S2.2.2 = S.2.2 := F3.R
  refine sp_Gr_changePlaces (n := g.n) (std := g.std) (by rw [R2]; exact hS) hn v2 (by rw [F3.cell (k := a) (fun j => by omega)]; exact z0) hb.2.2.2.2.2.2.2.1 hb.2.2.2.2.2.2.2.2 (by rw [F3.cell (k := a + 5) (fun j => by omega), F3.cell (k := a + 3) (fun j => by omega)]; exact z6) (fun S3 F4 W => ?_)
  have R3 : S3.2.2 = S.2.2 := F4.R.trans R2
  refine ⟨a + 6, by rw [R3]; exact hS.r10, hS.s6, sp_Pl_remove (A2.fr (by rw [F4.cell (k := a + 6) (fun j => by omega)]) (F4.cell (fun j => by omega)) (R3.trans R2.symm)) (by omega) hk (fun S4 F5 A4 => ?_)⟩
  have ea : S4.1 a = S.1 a := (F5.cell (fun j => by omega)).trans ((F4.cell (fun j => by omega)).trans (F3.cell (fun j => by omega)))
  refine h S4 (((F3.mono (fun c i q => by unfold GX; omega)).trans (F4.mono (fun c i q => by unfold GX; omega))).trans (F5.mono (fun c i q => by unfold GX; omega))) ea ?_
  have P5 : S4.1 (a + 5) = S3.1 (a + 5) := F5.cell (fun j => by omega)
  have P3 : S4.1 (a + 3) = S3.1 (a + 3) := F5.cell (fun j => by omega)
  have P4 : S4.1 (a + 4) = S2.1 (a + 4) := (F5.cell (fun j => by omega)).trans (F4.cell (fun j => by omega))
  have P2 : S4.1 (a + 2) = S.1 (a + 2) := (F5.cell (fun j => by omega)).trans ((F4.cell (fun j => by omega)).trans (F3.cell (fun j => by omega)))
  refine ⟨by rw [ea]; exact z0, by rw [ea]; exact z1, by rw [ea]; exact z2, A4.2.2.2.1, fun i hi => (A4.2.2.2.2.2.2 i hi).1, fun c hc => by rw [P2]; exact z5 c hc, by rw [P5, P3]; exact W, fun w hw => by rw [P4]; exact U w hw⟩
end PS
