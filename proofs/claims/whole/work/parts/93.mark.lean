/-! copies of a green -/
abbrev gcA (S : aw_S) (a c j : Nat) : aw_S := aw_uI S a j (S.1 c j)
abbrev gcB (S : aw_S) (a c : Nat) : aw_S := gcA (gcA (gcA (gcA (gcA S a c 0) a c 1) a c 2) a c 3) a c 4
abbrev gcT (S : aw_S) (a c : Nat) : aw_S := aw_cpi (aw_cpi (aw_cpi (aw_cpi (aw_cpl (gcB S a c) (c + 1) (a + 1) 0 0 7) (c + 2) (a + 2) 0 0 7) (c + 3) (a + 3) 0 0 7) (c + 4) (a + 4) 0 0 7) (c + 5) (a + 5) 0 0 7
theorem cpl_I (S : aw_S) (k1 k2 : Nat) (sp dp n : Int32) : (aw_cpl S k1 k2 sp dp n).1 = S.1 := rfl
theorem cpi_L (S : aw_S) (k1 k2 : Nat) (sp dp n : Int32) : (aw_cpi S k1 k2 sp dp n).2.1 = S.2.1 := rfl
theorem cpi_ne (S : aw_S) {k1 k2 c : Nat} (sp dp n : Int32) (h : c ≠ k2) : (aw_cpi S k1 k2 sp dp n).1 c = S.1 c := by
  funext i
  rw [cpi_at, if_neg h]
theorem gcA_ne (S : aw_S) {a c k : Nat} (j : Nat) (h : k ≠ a) : (gcA S a c j).1 k = S.1 k := uI_ne _ _ _ h
theorem gcB_ne (S : aw_S) {a c k : Nat} (h : k ≠ a) : (gcB S a c).1 k = S.1 k := by
  unfold gcB
  rw [gcA_ne _ _ h, gcA_ne _ _ h, gcA_ne _ _ h, gcA_ne _ _ h, gcA_ne _ _ h]
theorem gcA_at (S : aw_S) {a c : Nat} (h : c ≠ a) (j i : Nat) : (gcA S a c j).1 a i = if i = j then S.1 c j else S.1 a i := by
  unfold gcA
  rw [uI_at, if_pos rfl]
theorem gcB_at (S : aw_S) {a c : Nat} (h : c ≠ a) (i : Nat) : (gcB S a c).1 a i = if i ≤ 4 then S.1 c i else S.1 a i := by
  unfold gcB
  rw [gcA_at _ h, gcA_at _ h, gcA_at _ h, gcA_at _ h, gcA_at _ h]
  simp only [gcA_ne _ _ h]
  by_cases e4 : i = 4
  · subst e4; simp
  · rw [if_neg e4]
    by_cases e3 : i = 3
    · subst e3; simp
    · rw [if_neg e3]
      by_cases e2 : i = 2
      · subst e2; simp
      · rw [if_neg e2]
        by_cases e1 : i = 1
        · subst e1; simp
        · rw [if_neg e1]
          by_cases e0 : i = 0
          · subst e0; simp
          · rw [if_neg e0, if_neg (by omega)]
theorem cpy7 {α : Type} (f g : Nat → α) {j : Nat} (h : j < 7) : va_cpy f g (0 : Int32).toNatClampNeg (0 : Int32).toNatClampNeg (7 : Int32).toNatClampNeg j = f j := by
  show va_cpy f g 0 0 7 j = f j
  rw [pk_cpy_in (by omega) (by omega), show 0 + (j - 0) = j by omega]
/-- the green at a is now as that at c was -/
def CpF (a c : Nat) (S S' : aw_S) : Prop := (∀ k j, ¬ ((k = a ∧ j ≤ 4) ∨ (a + 2 ≤ k ∧ k ≤ a + 7)) → S'.1 k j = S.1 k j) ∧ (∀ k j, k ≠ a + 1 → S'.2.1 k j = S.2.1 k j) ∧ S'.2.2 = S.2.2 ∧ (∀ j, j ≤ 4 → S'.1 a j = S.1 c j) ∧ (∀ j, j < 7 → S'.2.1 (a + 1) j = S.2.1 (c + 1) j)
section CP
variable {l : Launch} {d : Nat} {sh : aw_SH} {S : aw_S} {a c : Nat} {g : GM}
theorem sp_Pl_copyFrom {P : aw_S → Prop} {r rc m : Nat} {f : Nat → Nat} (sa : sh[a]? = some (0, 3)) (ra : S.2.2 a 0 = some r) (sr : sh[r]? = some (3, 40)) (hne : c ≠ a) (hn2 : rc ≠ r) (hn3 : rc ≠ a) (hn4 : r ≠ a) (hn5 : c ≠ r) (H : PlA sh S c rc 40 m f) (h : ∀ S', FrI (fun k j => (k = a ∧ j = 1) ∨ k = r) S S' → S'.1 a 1 = S.1 c 1 → (∀ j, j < m → S'.1 r j = S.1 rc j) → P S') : Sp l m_Pl_copyFrom (d + 1) 0 0 [.ref a, .ref c] sh S (gV sh P) := by
  obtain ⟨sc, hr, src, hm, hc, hcap, hf⟩ := id H
  have e1 : (aw_uI S a 1 (S.1 c 1)).1 c 1 = nI m := by rw [uI_ne _ _ _ hne]; exact hm
  refine e_Pl_copyFrom sa ⟨sc, rc, hr, r, ra, 40, src, 40, sr, ?_⟩
  rw [e1, nI_clamp (by omega)]
  refine ⟨by decide, by decide, nI_pos (by omega), ?_, ?_, h _ ⟨fun k j q => ?_, rfl⟩ ?_ ?_⟩
  · show 0 + m ≤ 40
    omega
  · show 0 + m ≤ 40
    omega
  · rw [cpi_at, if_neg (fun z => q (Or.inr z)), uI_at]
    by_cases e : k = a
    · rw [if_pos e, if_neg (fun z => q (Or.inl ⟨e, z⟩)), e]
    · rw [if_neg e]
  · rw [cpi_at, if_neg (fun z => hn4 z.symm), uI_at, if_pos rfl, if_pos rfl]
  · intro j hj
    rw [cpi_at, if_pos rfl, nI_clamp (by omega), uI_ne _ _ _ hn3]
    show va_cpy _ _ 0 0 m j = _
    rw [pk_cpy_in (by omega) (by omega), show 0 + (j - 0) = j by omega]
theorem sp_Gr_copyFrom {P : aw_S → Prop} (hA : GrS sh S.2.2 a) (hC : GrS sh S.2.2 c) (hd : a + 15 ≤ c ∨ c + 15 ≤ a) (hb : bdG g) (H : GrG S.1 c g) (h : ∀ S', CpF a c S S' → GrG S'.1 a g → P S') : Sp l m_Gr_copyFrom (d + 1 + 1) 0 0 [.ref a, .ref c] sh S (gV sh P) := by
  have hn : g.n ≤ 7 := hb.1
  have hm : g.m ≤ 40 := hb.2.2.2.2.1
  have hca : c ≠ a := by omega
  have k67 : ∀ k, ¬ (k = a ∨ (a + 2 ≤ k ∧ k ≤ a + 5)) → (gcT S a c).1 k = S.1 k := fun k hk => by
    unfold gcT
    rw [cpi_ne _ _ _ _ (by omega), cpi_ne _ _ _ _ (by omega), cpi_ne _ _ _ _ (by omega), cpi_ne _ _ _ _ (by omega), cpl_I, gcB_ne _ (by omega)]
  have ka : ∀ i, (gcT S a c).1 a i = if i ≤ 4 then S.1 c i else S.1 a i := fun i => by
    unfold gcT
    rw [cpi_ne _ _ _ _ (by omega), cpi_ne _ _ _ _ (by omega), cpi_ne _ _ _ _ (by omega), cpi_ne _ _ _ _ (by omega), cpl_I, gcB_at _ hca]
  have k5 : ∀ j, j < 7 → (gcT S a c).1 (a + 5) j = S.1 (c + 5) j := fun j hj => by
    unfold gcT
    rw [cpi_at, if_pos rfl, cpy7 _ _ hj, cpi_ne _ _ _ _ (by omega), cpi_ne _ _ _ _ (by omega), cpi_ne _ _ _ _ (by omega), cpl_I, gcB_ne _ (by omega)]
  have k4 : ∀ j, j < 7 → (gcT S a c).1 (a + 4) j = S.1 (c + 4) j := fun j hj => by
    unfold gcT
    rw [cpi_ne _ _ _ _ (by omega), cpi_at, if_pos rfl, cpy7 _ _ hj, cpi_ne _ _ _ _ (by omega), cpi_ne _ _ _ _ (by omega), cpl_I, gcB_ne _ (by omega)]
  have k3 : ∀ j, j < 7 → (gcT S a c).1 (a + 3) j = S.1 (c + 3) j := fun j hj => by
    unfold gcT
    rw [cpi_ne _ _ _ _ (by omega), cpi_ne _ _ _ _ (by omega), cpi_at, if_pos rfl, cpy7 _ _ hj, cpi_ne _ _ _ _ (by omega), cpl_I, gcB_ne _ (by omega)]
  have k2 : ∀ j, j < 7 → (gcT S a c).1 (a + 2) j = S.1 (c + 2) j := fun j hj => by
    unfold gcT
    rw [cpi_ne _ _ _ _ (by omega), cpi_ne _ _ _ _ (by omega), cpi_ne _ _ _ _ (by omega), cpi_at, if_pos rfl, cpy7 _ _ hj, cpl_I, gcB_ne _ (by omega)]
  have k1 : ∀ j, j < 7 → (gcT S a c).2.1 (a + 1) j = S.2.1 (c + 1) j := fun j hj => by
    unfold gcT
    rw [cpi_L, cpi_L, cpi_L, cpi_L, cpl_at, if_pos rfl, cpy7 _ _ hj]
    rfl
  have kL : ∀ k j, k ≠ a + 1 → (gcT S a c).2.1 k j = S.2.1 k j := fun k j hk => by
    unfold gcT
    rw [cpi_L, cpi_L, cpi_L, cpi_L, cpl_at, if_neg hk]
    rfl
  refine e_Gr_copyFrom hA.sa ⟨hC.sa, c + 1, hC.r5, a + 1, hA.r5, 7, hC.s1, 7, hA.s1, by decide, by decide, by decide, by decide, by decide, c + 2, hC.r6, a + 2, hA.r6, 7, hC.s2, 7, hA.s2, by decide, by decide, by decide, by decide, by decide, c + 3, hC.r7, a + 3, hA.r7, 7, hC.s3, 7, hA.s3, by decide, by decide, by decide, by decide, by decide, c + 4, hC.r8, a + 4, hA.r8, 7, hC.s4, 7, hA.s4, by decide, by decide, by decide, by decide, by decide, c + 5, hC.r9, a + 5, hA.r9, 7, hC.s5, 7, hA.s5, by decide, by decide, by decide, by decide, by decide, a + 6, hA.r10, c + 6, hC.r10, hA.s6, ?_⟩
  show Sp l m_Pl_copyFrom (d + 1) 0 0 [.ref (a + 6), .ref (c + 6)] sh (gcT S a c) (gV sh (fun S60 => P S60))
  have hR : (gcT S a c).2.2 = S.2.2 := rfl
  have A : PlA sh (gcT S a c) (c + 6) (c + 7) 40 g.m g.f := (H.pl hC hb).fr (by rw [k67 _ (by omega)]) (k67 _ (by omega)) hR
  revert k67 ka k5 k4 k3 k2 k1 kL hR A
  generalize gcT S a c = T
  intro k67 ka k5 k4 k3 k2 k1 kL hR A
  obtain ⟨y0, y1, y2, y3, y4, y5, y6, y7⟩ := H
  refine sp_Pl_copyFrom hA.s6 (by rw [hR]; exact hA.rp) hA.s7 (by omega) (by omega) (by omega) (by omega) (by omega) A (fun S' F e1 e2 => h S' ⟨fun k j q => ?_, fun k j q => ?_, ?_, fun j hj => ?_, fun j hj => ?_⟩ ⟨?_, ?_, ?_, ?_, fun k hk => ?_, fun w hw => ?_, fun p hp => ?_, fun w hw => ?_⟩)
  · rw [F.1 k j (by omega)]
    by_cases e : k = a
    · rw [e, ka, if_neg (by omega)]
    · rw [k67 k (by omega)]
  · rw [F.L]; exact kL k j q
  · rw [F.R]; exact hR
  · rw [F.1 a j (by omega), ka, if_pos hj]
  · rw [F.L]; exact k1 j hj
  · rw [F.1 a 0 (by omega), ka, if_pos (by omega)]; exact y0
  · rw [F.1 a 1 (by omega), ka, if_pos (by omega)]; exact y1
  · rw [F.1 a 2 (by omega), ka, if_pos (by omega)]; exact y2
  · rw [e1, k67 _ (by omega)]; exact y3
  · rw [e2 k hk, k67 _ (by omega)]; exact y4 k hk
  · have hw : w < g.n := hw
    rw [F.1 _ w (by omega), k2 w (by omega)]; exact y5 w hw
  · have hp : p < g.n := hp
    have hs := hb.2.2.2.2.2.2.2.1 p hp
    rw [F.1 _ p (by omega), k5 p (by omega)]
    have e3 : S'.1 (a + 3) (g.std p) = S.1 (c + 3) (g.std p) := by rw [F.1 _ _ (by omega), k3 _ (by omega)]
    rw [e3]
    exact y6 p hp
  · have hw : w < g.n := hw
    rw [F.1 _ w (by omega), k4 w (by omega)]; exact y7 w hw
theorem cpi_step {T : aw_S} {k1 k2 n : Nat} (hn : n ≤ 30) : FrI (fun k _ => k = k2) T (aw_cpi T k1 k2 0 0 (nI n)) ∧ ∀ j, j < n → (aw_cpi T k1 k2 0 0 (nI n)).1 k2 j = T.1 k1 j := by
  refine ⟨⟨fun k j q => by rw [cpi_at, if_neg q], rfl⟩, fun j hj => ?_⟩
  rw [cpi_at, if_pos rfl, nI_clamp (by omega)]
  show va_cpy _ _ 0 0 n j = _
  rw [pk_cpy_in (by omega) (by omega), show 0 + (j - 0) = j by omega]
def FeS (sh : aw_SH) (R : Nat → Nat → Option Nat) (f : Nat) : Prop := sh[f]? = some (0, 4) ∧ (R f 2 = some (f + 1) ∧ R f 3 = some (f + 2) ∧ R f 4 = some (f + 3) ∧ R f 5 = some (f + 4) ∧ R f 6 = some (f + 5)) ∧ sh[f + 1]? = some (3, 30) ∧ sh[f + 2]? = some (3, 30) ∧ sh[f + 3]? = some (3, 30) ∧ sh[f + 4]? = some (3, 30) ∧ sh[f + 5]? = some (3, 30)
theorem FeS.mk0 {R : Nat → Nat → Option Nat} (h : RefsOk R) {f : Nat} (hf : f = 19 ∨ f = 34 ∨ f = 50 ∨ f = 65 ∨ f = 80 ∨ f = 87) : FeS sh0 R f := by
  rcases hf with rfl | rfl | rfl | rfl | rfl | rfl
  all_goals exact ⟨rfl, ⟨h.at (by decide), h.at (by decide), h.at (by decide), h.at (by decide), h.at (by decide)⟩, rfl, rfl, rfl, rfl, rfl⟩
def FeF (f c n : Nat) (S S' : aw_S) : Prop := FrI (fun k j => (k = f ∧ j ≤ 1) ∨ (f + 1 ≤ k ∧ k ≤ f + 5)) S S' ∧ S'.1 f 0 = S.1 c 0 ∧ S'.1 f 1 = S.1 c 1 ∧ ∀ j, j < n → S'.1 (f + 1) j = S.1 (c + 1) j ∧ S'.1 (f + 2) j = S.1 (c + 2) j ∧ S'.1 (f + 3) j = S.1 (c + 3) j ∧ S'.1 (f + 4) j = S.1 (c + 4) j ∧ S'.1 (f + 5) j = S.1 (c + 5) j
theorem sp_Fe_copyFrom {P : aw_S → Prop} {f n : Nat} (hF : FeS sh S.2.2 f) (hC : FeS sh S.2.2 c) (hd : f + 6 ≤ c ∨ c + 6 ≤ f) (h0 : S.1 c 0 = 0 ∨ S.1 c 0 = 1) (hn : n ≤ 30) (h1 : S.1 c 1 = nI n) (h : ∀ S', FeF f c n S S' → P S') : Sp l m_Fe_copyFrom (d + 1) 0 0 [.ref f, .ref c] sh S (gV sh P) := by
  obtain ⟨sf, ⟨q2, q3, q4, q5, q6⟩, t1, t2, t3, t4, t5⟩ := hF
  obtain ⟨sc, ⟨p2, p3, p4, p5, p6⟩, u1, u2, u3, u4, u5⟩ := hC
  refine e_Fe_copyFrom sf ⟨sc, h0, c + 1, p2, f + 1, q2, 30, u1, 30, t1, by decide, by decide, ?_⟩
  have Ff : FrI (fun k j => k = f ∧ j ≤ 1) S (aw_uI (aw_uI S f 0 (S.1 c 0)) f 1 ((aw_uI S f 0 (S.1 c 0)).1 c 1)) := ((FrI.refl (fun k j => k = f ∧ j ≤ 1) S).uI _ ⟨rfl, by omega⟩).uI _ ⟨rfl, by omega⟩
  have e0 : (aw_uI (aw_uI S f 0 (S.1 c 0)) f 1 ((aw_uI S f 0 (S.1 c 0)).1 c 1)).1 f 0 = S.1 c 0 := by rw [uI_at, if_pos rfl, if_neg (by omega), uI_at, if_pos rfl, if_pos rfl]
  have e1 : (aw_uI (aw_uI S f 0 (S.1 c 0)) f 1 ((aw_uI S f 0 (S.1 c 0)).1 c 1)).1 f 1 = nI n := by rw [uI_at, if_pos rfl, if_pos rfl, uI_ne _ _ _ (by omega)]; exact h1
  revert Ff e0 e1
  generalize aw_uI (aw_uI S f 0 (S.1 c 0)) f 1 ((aw_uI S f 0 (S.1 c 0)).1 c 1) = T
  intro Ff e0 e1
  rw [e1]
  have len : (0 : Int32).toNatClampNeg + (nI n).toNatClampNeg ≤ 30 := by
    rw [nI_clamp (by omega)]
    show 0 + n ≤ 30
    omega
  obtain ⟨G1, V1⟩ := cpi_step (T := T) (k1 := c + 1) (k2 := f + 1) hn
  revert G1 V1
  generalize aw_cpi T (c + 1) (f + 1) 0 0 (nI n) = T1
  intro G1 V1
  have f1 : T1.1 f 1 = nI n := (G1.1 f 1 (by omega)).trans e1
  rw [f1]
  refine ⟨nI_pos (by omega), len, len, c + 2, by rw [G1.R, Ff.R]; exact p3, f + 2, by rw [G1.R, Ff.R]; exact q3, 30, u2, 30, t2, by decide, by decide, nI_pos (by omega), len, len, ?_⟩
  obtain ⟨G2, V2⟩ := cpi_step (T := T1) (k1 := c + 2) (k2 := f + 2) hn
  revert G2 V2
  generalize aw_cpi T1 (c + 2) (f + 2) 0 0 (nI n) = T2
  intro G2 V2
  have f2 : T2.1 f 1 = nI n := (G2.1 f 1 (by omega)).trans f1
  rw [f2]
  refine ⟨c + 3, by rw [G2.R, G1.R, Ff.R]; exact p4, f + 3, by rw [G2.R, G1.R, Ff.R]; exact q4, 30, u3, 30, t3, by decide, by decide, nI_pos (by omega), len, len, ?_⟩
  obtain ⟨G3, V3⟩ := cpi_step (T := T2) (k1 := c + 3) (k2 := f + 3) hn
  revert G3 V3
  generalize aw_cpi T2 (c + 3) (f + 3) 0 0 (nI n) = T3
  intro G3 V3
  have f3 : T3.1 f 1 = nI n := (G3.1 f 1 (by omega)).trans f2
  rw [f3]
  refine ⟨c + 4, by rw [G3.R, G2.R, G1.R, Ff.R]; exact p5, f + 4, by rw [G3.R, G2.R, G1.R, Ff.R]; exact q5, 30, u4, 30, t4, by decide, by decide, nI_pos (by omega), len, len, ?_⟩
  obtain ⟨G4, V4⟩ := cpi_step (T := T3) (k1 := c + 4) (k2 := f + 4) hn
  revert G4 V4
  generalize aw_cpi T3 (c + 4) (f + 4) 0 0 (nI n) = T4
  intro G4 V4
  have f4 : T4.1 f 1 = nI n := (G4.1 f 1 (by omega)).trans f3
  rw [f4]
  refine ⟨c + 5, by rw [G4.R, G3.R, G2.R, G1.R, Ff.R]; exact p6, f + 5, by rw [G4.R, G3.R, G2.R, G1.R, Ff.R]; exact q6, 30, u5, 30, t5, by decide, by decide, nI_pos (by omega), len, len, ?_⟩
  obtain ⟨G5, V5⟩ := cpi_step (T := T4) (k1 := c + 5) (k2 := f + 5) hn
  revert G5 V5
  generalize aw_cpi T4 (c + 5) (f + 5) 0 0 (nI n) = T5
  intro G5 V5
  have o : ∀ k j, ¬ (k = f ∨ k = f + 1 ∨ k = f + 2 ∨ k = f + 3 ∨ k = f + 4 ∨ k = f + 5) → T.1 k j = S.1 k j ∧ T1.1 k j = S.1 k j ∧ T2.1 k j = S.1 k j ∧ T3.1 k j = S.1 k j ∧ T4.1 k j = S.1 k j := by
    intro k j q
    have a0 := Ff.1 k j (by omega)
    have a1 := (G1.1 k j (by omega)).trans a0
    have a2 := (G2.1 k j (by omega)).trans a1
    have a3 := (G3.1 k j (by omega)).trans a2
    have a4 := (G4.1 k j (by omega)).trans a3
    exact ⟨a0, a1, a2, a3, a4⟩
  refine h T5 ⟨(((((Ff.mono (fun k j q => by omega)).trans (G1.mono (fun k j q => by omega))).trans (G2.mono (fun k j q => by omega))).trans (G3.mono (fun k j q => by omega))).trans (G4.mono (fun k j q => by omega))).trans (G5.mono (fun k j q => by omega)), ?_, ?_, fun j hj => ⟨?_, ?_, ?_, ?_, ?_⟩⟩
  · rw [G5.1 f 0 (by omega), G4.1 f 0 (by omega), G3.1 f 0 (by omega), G2.1 f 0 (by omega), G1.1 f 0 (by omega)]; exact e0
  · rw [G5.1 f 1 (by omega), f4, h1]
  · rw [G5.1 _ j (by omega), G4.1 _ j (by omega), G3.1 _ j (by omega), G2.1 _ j (by omega), V1 j hj]; exact (o _ j (by omega)).1
  · rw [G5.1 _ j (by omega), G4.1 _ j (by omega), G3.1 _ j (by omega), V2 j hj]; exact (o _ j (by omega)).2.1
  · rw [G5.1 _ j (by omega), G4.1 _ j (by omega), V3 j hj]; exact (o _ j (by omega)).2.2.1
  · rw [G5.1 _ j (by omega), V4 j hj]; exact (o _ j (by omega)).2.2.2.1
  · rw [V5 j hj]; exact (o _ j (by omega)).2.2.2.2
end CP
/-- FEASTS at another place -/
theorem feR.mv {n : Nat} {I I' : Nat → Nat → Int32} {c c' s s' : Nat} (h : feR n I c s) (h0 : I' c' 0 = I c 0 ∧ I' c' 1 = I c 1) (h1 : ∀ N, N ≤ 30 → I c 1 = nI N → ∀ j, j < N → I' (c' + 1) j = I (c + 1) j ∧ I' (c' + 2) j = I (c + 2) j ∧ I' (c' + 3) j = I (c + 3) j ∧ I' (c' + 4) j = I (c + 4) j ∧ I' (c' + 5) j = I (c + 5) j) (h2 : ∀ j, 184 ≤ j → j < 544 → I' 115 (s' + j) = I 115 (s + j)) (h3 : I' 115 (s' + 5) = I 115 (s + 5)) : feR n I' c' s' := by
  unfold feR at h ⊢
  rw [h0.1, h3, h0.2]
  rcases h with h | ⟨g0, N, cd, pr, g1, g2, g3, g4, g5, g6⟩
  · exact Or.inl h
  · refine Or.inr ⟨g0, N, cd, pr, g1, g2, g3, g4, fun e he => ?_, g6⟩
    obtain ⟨k1, k2, k3, k4⟩ := g5 e he
    have a0 := h2 (184 + 6 * e) (by omega) (by omega)
    have a1 := h2 (184 + 6 * e + 1) (by omega) (by omega)
    have a2 := h2 (184 + 6 * e + 2) (by omega) (by omega)
    have a4 := h2 (184 + 6 * e + 4) (by omega) (by omega)
    have a5 := h2 (184 + 6 * e + 5) (by omega) (by omega)
    simp only [← Nat.add_assoc] at a0 a1 a2 a4 a5
    rw [a0, a1, a2, a4, a5]
    refine ⟨k1, k2, k3, fun hq => ?_⟩
    obtain ⟨z1, z2⟩ := k4 hq
    have hb : ncN cd e < ncN cd N := by
      have mono : ∀ x y, x ≤ y → ncN cd x ≤ ncN cd y := by
        intro x y hxy
        induction hxy with
        | refl => exact Nat.le_refl _
        | step _ ih => exact Nat.le_trans ih (Nat.le_add_right _ _)
      have m1 := mono (e + 1) N he
      have m2 : ncN cd (e + 1) = ncN cd e + 1 := by
        show ncN cd e + (if cd e = 13 then 0 else 1) = _
        rw [if_neg hq]
      omega
    obtain ⟨w1, w2, w3, w4, w5⟩ := h1 _ g2 g3 _ hb
    rw [w1, w2, w3, w4, w5]
    exact ⟨z1, z2⟩
theorem feR.c0 {n : Nat} {I : Nat → Nat → Int32} {c s : Nat} (h : feR n I c s) : (I c 0 = 0 ∨ I c 0 = 1) ∧ ∃ N, N ≤ 30 ∧ I c 1 = nI N := by
  rcases h with ⟨h0, h1, -⟩ | ⟨h0, N, cd, pr, -, g2, g3, -⟩
  · exact ⟨Or.inl h0, 0, by omega, h1⟩
  · exact ⟨Or.inr h0, _, g2, g3⟩
theorem MdP.mv {I I' : Nat → Nat → Int32} {s s' n od lg m : Nat} {f col std : Nat → Nat} (h : MdP I s n od lg m f col std) (hn : n ≤ 7) (hm : m ≤ 40) (hA : ∀ j, j < 184 → I' 115 (s' + j) = I 115 (s + j)) : MdP I' s' n od lg m f col std := by
  obtain ⟨h1, h2, h3, h4, h5, h6, h7⟩ := h
  have A : ∀ j x y, j < 184 → x = s' + j → y = s + j → I' 115 x = I 115 y := fun j x y hj hx hy => by rw [hx, hy]; exact hA j hj
  refine ⟨(A 0 _ _ (by omega) rfl rfl).trans h1, (hA 1 (by omega)).trans h2, (hA 2 (by omega)).trans h3, (hA 3 (by omega)).trans h4, fun k hk => ?_, fun d hd => ?_, fun p hp => ?_⟩
  · rw [A (24 + 4 * k) _ (s + 24 + 4 * k) (by omega) (by omega) (by omega), A (24 + 4 * k + 1) _ (s + 24 + 4 * k + 1) (by omega) (by omega) (by omega), A (24 + 4 * k + 2) _ (s + 24 + 4 * k + 2) (by omega) (by omega) (by omega), A (24 + 4 * k + 3) _ (s + 24 + 4 * k + 3) (by omega) (by omega) (by omega)]
    exact h5 k hk
  · rw [A (10 + d) _ (s + 10 + d) (by omega) (by omega) (by omega)]
    exact h6 d hd
  · rw [A (17 + p) _ (s + 17 + p) (by omega) (by omega) (by omega)]
    exact h7 p hp
