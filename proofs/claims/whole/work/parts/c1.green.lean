/-! green: the call -/
theorem plZ_at (A : Nat) (S : aw_S) (slot : Nat) : ∀ n k j, (pl_Z A S slot n).1 k j = if k = A ∧ slot ≤ j ∧ j < slot + n then 0 else S.1 k j := by
  intro n
  induction n with
  | zero =>
    intro k j
    rw [if_neg (by omega)]
    rfl
  | succ n ih =>
    intro k j
    show (aw_uI (pl_Z A S slot n) A (slot + n) 0).1 k j = _
    rw [uI_at]
    by_cases c : k = A
    · rw [if_pos c]
      by_cases e : j = slot + n
      · rw [if_pos e, if_pos (by omega)]
      · rw [if_neg e, ih]
        by_cases q : slot ≤ j ∧ j < slot + n
        · rw [if_pos ⟨rfl, q⟩, if_pos (by omega)]
        · rw [if_neg (fun z => q z.2), if_neg (by omega), c]
    · rw [if_neg c, ih, if_neg (fun z => c z.1), if_neg (fun z => c z.1)]
theorem plZ_L (A : Nat) (S : aw_S) (slot : Nat) : ∀ n, (pl_Z A S slot n).2.1 = S.2.1 := by
  intro n
  induction n with
  | zero => rfl
  | succ n ih => exact ih
theorem plE_at (A : Nat) (S : aw_S) (slot k j : Nat) : (pl_E A S slot).1 k j = if k = A ∧ slot ≤ j ∧ j < slot + 552 then (if j = slot + 5 then -1 else if j = slot + 2 then 12 else if j = slot + 1 then 2 else 0) else S.1 k j := by
  unfold pl_E
  rw [uI_at]
  by_cases c : k = A
  · rw [if_pos c, uI_at, if_pos rfl, uI_at, if_pos rfl, plZ_at]
    by_cases e : slot ≤ j ∧ j < slot + 552
    · rw [if_pos (show A = A ∧ slot ≤ j ∧ j < slot + 552 from ⟨rfl, e⟩), if_pos (show k = A ∧ slot ≤ j ∧ j < slot + 552 from ⟨c, e⟩)]
    · rw [if_neg (by omega), if_neg (by omega), if_neg (by omega), if_neg (fun z => e z.2), if_neg (fun z => e z.2), c]
  · rw [if_neg c, uI_ne _ _ _ c, uI_ne _ _ _ c, plZ_at, if_neg (fun z => c z.1), if_neg (fun z => c z.1)]
theorem Inv.tx {S T : aw_S} (h : Inv S) (hI : ∀ k j, ¬ ((k = 0 ∧ (j = 2 ∨ j = 4 ∨ j = 5)) ∨ (k = 114 ∧ (j = 10 ∨ j = 16 ∨ j = 17))) → T.1 k j = S.1 k j) (h2 : T.2 = S.2) (e2 : T.1 0 2 = 0) (e10 : T.1 114 10 = 0) (e4 : T.1 0 4 = T.1 114 16) (e5 : T.1 0 5 = T.1 114 17) : Inv T := by
  obtain ⟨i1, i2, i3, i4, i5, i6, i7, i8, i9, i10⟩ := h
  have c : ∀ k, k ≠ 0 → k ≠ 114 → T.1 k = S.1 k := fun k q3 q4 => funext fun j => hI k j (by omega)
  refine ⟨?_, by rw [h2]; exact i2, ⟨e4, e5⟩, ?_, ⟨0, by omega, e2, e10, fun j hj => absurd hj (Nat.not_lt_zero j)⟩, ?_, ?_, ?_, by rw [h2]; exact i9, by rw [h2]; exact i10⟩
  · rw [hI 0 3 (by omega), hI 114 2 (by omega)]; exact i1
  · rw [hI 0 14 (by omega), hI 114 50 (by omega), c 98 (by omega) (by omega), c 142 (by omega) (by omega)]; exact i4
  · obtain ⟨k, a1, a2, a3, a4⟩ := i6
    refine ⟨k, a1, by rw [hI 0 9 (by omega)]; exact a2, by rw [hI 114 51 (by omega)]; exact a3, fun i hi => ?_⟩
    rw [h2]
    exact (a4 i hi).fr (fun k q1 q2 => c k (by omega) (by omega)) (fun j _ => by rw [c 115 (by omega) (by omega)]) rfl (fun _ _ => rfl)
  · obtain ⟨a, b, r1, r2, r3, r4⟩ := i7
    refine ⟨a, b, by rw [h2]; exact r1, by rw [h2]; exact r2, r3, ?_⟩
    rw [h2]
    exact r4.fr (fun k q1 q2 => c k (by omega) (by omega)) (fun j _ => by rw [c 115 (by omega) (by omega)]) rfl (fun _ _ => rfl)
  · rw [h2]
    exact i8.fr (fun k q => c k (by omega) (by omega)) (fun _ _ => rfl)
/-- the bytes of the tape -/
def btN (S : aw_S) (j : Nat) : Nat := (S.1 10 j &&& 255).toNatClampNeg
theorem bt_ok {S : aw_S} {j : Nat} (h : (S.1 10 j).toInt8.toInt32 = S.1 10 j) : byP (S.1 10 j) (btN S j) ∧ S.1 10 j &&& 255 = nI (btN S j) ∧ btN S j < 256 := by
  obtain ⟨b, h1, h2, h3⟩ := byP.of h
  have e : btN S j = b := by
    unfold btN
    rw [h3]
    exact nI_clamp (by omega)
  rw [e]
  exact ⟨h2, h3, h1⟩
def BX (k j : Nat) : Prop := (k = 114 ∧ ((10 ≤ j ∧ j ≤ 15) ∨ (17 ≤ j ∧ j ≤ 19))) ∨ k = 121
theorem sp_begins {l : Launch} {d n tp most : Nat} {B : Nat → Nat} {S : aw_S} {P : Int32 → aw_S → Prop} (hR : RefsOk S.2.2) (htp : S.1 114 10 = nI tp) (h1 : n ≤ tp) (h2 : tp ≤ 900) (h3 : n ≤ most) (h4 : most ≤ 900) (hT : ∀ j, j < n → (S.1 120 j).toInt8.toInt32 = S.1 120 j ∧ S.1 120 j &&& 255 = nI (B j) ∧ B j < 256) (k : ∀ T, FrI BX S T → T.1 114 10 = 0 → TmG T B n (tkF B n 0) → P 1 T) : Sp l m_Md_begins (d + 1 + 1 + 1) 0 0 [.ref 114, .int (nI n), .int (nI most)] sh0 S (gI sh0 P) := by
  have key : ∀ m i U, i + m = n → FrI BX S U → U.1 114 11 = nI n → (∀ j, j < i → U.1 121 j = S.1 120 j) → AW l m_Md_begins (d + 1 + 1 + 1) 0 0 (gI sh0 P) 0 0 26 [.ref 114, .int (nI n), .null, .int (nI i)] [] sh0 U := by
    intro m
    induction m with
    | zero =>
      intro i U hi F e11 hc
      have hi : i = n := hi
      subst hi
      refine s_Md_begins_26 rfl ⟨fun _ => ?_, fun z => absurd (Int32.le_refl _) z⟩
      have F5 : FrI BX S (aw_uI (aw_uI (aw_uI (aw_uI (aw_uI U 114 10 0) 114 18 0) 114 17 (-1)) 114 14 0) 114 19 0) := ((((F.uI _ (Or.inl ⟨rfl, by omega⟩)).uI _ (Or.inl ⟨rfl, by omega⟩)).uI _ (Or.inl ⟨rfl, by omega⟩)).uI _ (Or.inl ⟨rfl, by omega⟩)).uI _ (Or.inl ⟨rfl, by omega⟩)
      have v : (aw_uI (aw_uI (aw_uI (aw_uI (aw_uI U 114 10 0) 114 18 0) 114 17 (-1)) 114 14 0) 114 19 0).1 114 10 = 0 ∧ (aw_uI (aw_uI (aw_uI (aw_uI (aw_uI U 114 10 0) 114 18 0) 114 17 (-1)) 114 14 0) 114 19 0).1 114 11 = U.1 114 11 ∧ (aw_uI (aw_uI (aw_uI (aw_uI (aw_uI U 114 10 0) 114 18 0) 114 17 (-1)) 114 14 0) 114 19 0).1 114 14 = nI 0 ∧ (aw_uI (aw_uI (aw_uI (aw_uI (aw_uI U 114 10 0) 114 18 0) 114 17 (-1)) 114 14 0) 114 19 0).1 114 17 = -1 ∧ (aw_uI (aw_uI (aw_uI (aw_uI (aw_uI U 114 10 0) 114 18 0) 114 17 (-1)) 114 14 0) 114 19 0).1 114 18 = 0 := by
        simp only [uI_at]
        exact ⟨rfl, rfl, rfl, rfl, rfl⟩
      have o121 : (aw_uI (aw_uI (aw_uI (aw_uI (aw_uI U 114 10 0) 114 18 0) 114 17 (-1)) 114 14 0) 114 19 0).1 121 = U.1 121 := by rw [uI_ne _ _ _ (by decide), uI_ne _ _ _ (by decide), uI_ne _ _ _ (by decide), uI_ne _ _ _ (by decide), uI_ne _ _ _ (by decide)]
      generalize aw_uI (aw_uI (aw_uI (aw_uI (aw_uI U 114 10 0) 114 18 0) 114 17 (-1)) 114 14 0) 114 19 0 = V at F5 v o121
      obtain ⟨v1, v2, v3, v4, v5⟩ := v
      have hx : TxM V B i := ⟨by rw [F5.R]; exact hR.at (by decide), by rw [v2]; exact e11, by omega, fun j hj => by rw [o121, hc j hj]; exact (hT j hj).2⟩
      refine sp_ahead hx v3 (Nat.zero_le _) (fun W F6 T6 => k W (F5.trans (F6.mono (fun k j q => by unfold AX at q; unfold BX; omega))) ?_ ⟨hx.fr F6, T6, (tkF_ok (Nat.zero_le _)).1, ?_, ?_⟩)
      · rw [F6.1 114 10 (by unfold AX; omega)]; exact v1
      · rw [F6.1 114 18 (by unfold AX; omega)]; exact v5
      · rw [F6.1 114 17 (by unfold AX; omega)]; exact v4
    | succ m ih =>
      intro i U hi F e11 hc
      refine s_Md_begins_26 rfl ⟨fun z => absurd ((nI_leI (by omega) (by omega)).mp z) (by omega), fun _ => ⟨121, by rw [F.R]; exact hR.at (by decide), 120, by rw [F.R]; exact hR.at (by decide), 900, rfl, vp_in_nI (by omega) (by omega), 900, rfl, vp_in_nI (by omega) (by omega), ?_⟩⟩
      rw [nI_1, nI_clamp (by omega), F.1 120 i (by unfold BX; omega)]
      refine ih (i + 1) _ (by omega) (F.uI _ (Or.inr rfl)) (by rw [uI_ne _ _ _ (by decide)]; exact e11) (fun j hj => ?_)
      rw [uI_at, if_pos rfl]
      by_cases e : j = i
      · rw [if_pos e, e, vp_nar_byte]
        exact (hT i (by omega)).1
      · rw [if_neg e]; exact hc j (by omega)
  refine e_Md_begins rfl ⟨fun z => absurd z (nI_pos (by omega)), fun _ => ⟨fun z => ?_, fun _ => ⟨fun _ => key n 0 _ (by omega) ((FrI.refl _ S).uI _ (Or.inl ⟨rfl, by omega⟩)) (by rw [uI_at, if_pos rfl, if_pos rfl]) (fun j hj => absurd hj (Nat.not_lt_zero j)), fun z => absurd (nI_le h3 (by omega)) z⟩⟩⟩
  rw [htp] at z
  exact absurd ((nI_ltI (by omega) (by omega)).mp z) (by omega)
/-- the reference's loop over the parts -/
theorem gm_loop {l : Launch} {d L : Nat} {B : Nat → Nat} {V : aw_S} {P : Int32 → aw_S → Prop} (hR : RefsOk V.2.2) (k0 : ∀ T f, GmF V T → FtM T f → .inl f = gall B L (L + 1) (gs0 B L) → ∃ r3, T.2.2 114 0 = some r3 ∧ ∃ n5, sh0[r3]? = some (3, n5) ∧ vp_in 0 n5 ∧ Sp l m_Md_taken (d + 9) 0 0 [.ref 114, .int (T.1 r3 (0 : Int32).toNatClampNeg)] sh0 T (gI sh0 P)) (k1 : ∀ T s, GmR V T B L s → .inr s = gall B L (L + 1) (gs0 B L) → AW l m_Md_green (d + 10) 0 0 (gI sh0 P) 0 0 59 [.ref 114, .null, .null, .int 0] [] sh0 T) (hok : ∀ f, gall B L (L + 1) (gs0 B L) = .inl f → okF L f) (hL : L ≤ 900) : ∀ f s T, (s.t.k ≠ 0 → L + 1 - s.t.e ≤ f) → GpB s → GmR V T B L s → gall B L f s = gall B L (L + 1) (gs0 B L) → AW l m_Md_green (d + 10) 0 0 (gI sh0 P) 0 0 31 [.ref 114, .null, .int 1, .null] [] sh0 T := by
  intro f
  induction f with
  | zero =>
    intro s T hf hB h e
    obtain ⟨x, c, w, f0, f1⟩ := id h.2.1
    have kz : s.t.k = 0 := Classical.byContradiction (fun y => by
      have := hf y
      have := w.2.1
      omega)
    have is0 := c.is w (q := 0) (by omega)
    refine s_Md_green_31 rfl ⟨fun z => absurd z (by decide), fun _ => ⟨fun _ => ⟨fun z => absurd f0 z, fun _ => k1 T s h ?_⟩, fun z => absurd (is0.mpr kz) z⟩⟩
    rw [← e, gall_0 kz]
  | succ f ih =>
    intro s T hf hB h e
    obtain ⟨x, c, w, f0, f1⟩ := id h.2.1
    have wL := w.2.1
    have is0 := c.is w (q := 0) (by omega)
    refine s_Md_green_31 rfl ⟨fun z => absurd z (by decide), fun _ => ⟨fun z => ⟨fun z => absurd f0 z, fun _ => k1 T s h ?_⟩, fun z => ?_⟩⟩
    · rw [← e, gall_0 (is0.mp z)]
    · have kz : ¬ s.t.k = 0 := fun y => z (is0.mpr y)
      have hf' := hf kz
      refine sp_greenPart hR hB h (fun x T' hx o => ?_)
      unfold gall at e
      rw [if_neg kz] at e
      cases eg : gpart B L s with
      | inl fl =>
        rw [eg] at o e
        obtain ⟨o1, o2, o3⟩ := o
        subst o1
        have o5 := hok fl e.symm
        refine s_Md_green_31 rfl ⟨fun _ => ⟨fun _ => k0 T' fl o2 o3 e, fun z => ?_⟩, fun z => absurd rfl z⟩
        rw [o3.1] at z
        have := (nI_inj (b := 0) (by have := o5.2.1; omega) (by omega)).mp z
        have := o5.1
        omega
      | inr s' =>
        rw [eg] at o e
        obtain ⟨o1, o2⟩ := o
        subst o1
        obtain ⟨q1, q2, q3⟩ := gpart_r eg hB w
        refine ih s' T' (fun y => ?_) q1 o2 e
        have := q3.2.2.2.1 y
        omega
