/-! the invariant at the start, and what leaves it as it is -/
set_option maxRecDepth 100000 in
theorem inv_refs : RefsOk S00.2.2 := by
  unfold RefsOk
  decide +kernel
set_option maxRecDepth 100000 in
theorem inv_tr : trR S00.1 S00.2.1 := by
  have h : ∀ t, t < 4 → S00.1 (2 + 2 * t) 1 = 0 ∧ S00.1 118 t = -1 := by decide +kernel
  exact fun t ht => Or.inl (h t ht)
set_option maxRecDepth 100000 in
theorem inv_gg : ggR S00.1 S00.2.1 11 0 0 := by
  have z : ∀ {P : Nat → Prop} (k : Nat), k < 0 → P k := fun k h => absurd h (Nat.not_lt_zero k)
  refine ⟨0, 2, 12, 0, fun _ => 0, fun _ => 0, fun _ => 0, ⟨by decide, by decide, by decide, by decide, by decide, z, z, z, fun p q h => absurd h (Nat.not_lt_zero p)⟩, fun j k _ h => absurd h (Nat.not_lt_zero k), ⟨by decide +kernel, by decide +kernel, by decide +kernel, by decide +kernel, z, z, z, z⟩, ⟨by decide +kernel, by decide +kernel, by decide +kernel, by decide +kernel, z, z, z⟩, by decide +kernel, z, Or.inl ⟨by decide +kernel, by decide +kernel, by decide +kernel⟩⟩
set_option maxRecDepth 100000 in
theorem inv_0 : Inv S00 := by
  refine ⟨by decide +kernel, ⟨by decide +kernel, by decide +kernel⟩, ⟨by decide +kernel, by decide +kernel⟩, ⟨Or.inl (by decide +kernel), by decide +kernel, fun h => absurd h (by decide +kernel)⟩, ⟨0, by decide, by decide +kernel, by decide +kernel, fun j h => absurd h (Nat.not_lt_zero j)⟩, ⟨0, by decide, by decide +kernel, by decide +kernel, fun j h => absurd h (Nat.not_lt_zero j)⟩, ⟨11, 26, by decide +kernel, by decide +kernel, Or.inl ⟨rfl, rfl⟩, inv_gg⟩, inv_tr, inv_refs, by decide +kernel⟩
/-- two pictures of a green are one to ggR if they hold the same -/
theorem feR.fr {n : Nat} {I I' : Nat → Nat → Int32} {c s : Nat} (h : feR n I c s) (h0 : I' c 0 = I c 0 ∧ I' c 1 = I c 1) (h1 : ∀ j, j < 30 → I' (c + 1) j = I (c + 1) j ∧ I' (c + 2) j = I (c + 2) j ∧ I' (c + 3) j = I (c + 3) j ∧ I' (c + 4) j = I (c + 4) j ∧ I' (c + 5) j = I (c + 5) j) (h2 : ∀ j, 184 ≤ j → j < 544 → I' 115 (s + j) = I 115 (s + j)) (h3 : I' 115 (s + 5) = I 115 (s + 5)) : feR n I' c s := by
  unfold feR at h ⊢
  rw [h0.1, h3, h0.2]
  rcases h with h | ⟨g0, N, cd, pr, g1, g2, g3, g4, g5, g6⟩
  · exact Or.inl h
  · refine Or.inr ⟨g0, N, cd, pr, g1, g2, g3, g4, fun e he => ?_, g6⟩
    obtain ⟨k1, k2, k3, k4⟩ := g5 e he
    have a0 := h2 (184 + 6 * e) (by omega) (by omega)
    have a1 := h2 (184 + 6 * e + 1) (by omega) (by omega)
    have a2 := h2 (184 + 6 * e + 2) (by omega) (by omega)
    have a4 := h2 (184 + 6 * e + 4) (by omega) (by omega)
    have a5 := h2 (184 + 6 * e + 5) (by omega) (by omega)
    rw [← Nat.add_assoc] at a0
    rw [← Nat.add_assoc, ← Nat.add_assoc] at a1 a2 a4 a5
    rw [a0, a1, a2, a4, a5]
    refine ⟨k1, k2, k3, fun hq => ?_⟩
    obtain ⟨z1, z2⟩ := k4 hq
    have hb : ncN cd e < 30 := by
      have mono : ∀ x y, x ≤ y → ncN cd x ≤ ncN cd y := by
        intro x y hxy
        induction hxy with
        | refl => exact Nat.le_refl _
        | step _ ih => exact Nat.le_trans ih (Nat.le_add_right _ _)
      have m1 := mono (e + 1) N he
      have m2 : ncN cd (e + 1) = ncN cd e + 1 := by
        show ncN cd e + (if cd e = 13 then 0 else 1) = _
        rw [if_neg hq]
      omega
    obtain ⟨w1, w2, w3, w4, w5⟩ := h1 _ hb
    rw [w1, w2, w3, w4, w5]
    exact ⟨z1, z2⟩
theorem GrP.fr {I I' : Nat → Nat → Int32} {a n od lg m : Nat} {f col std : Nat → Nat} (h : GrP I a n od lg m f col std) (hI : ∀ k, a ≤ k → k < a + 8 → I' k = I k) : GrP I' a n od lg m f col std := by
  unfold GrP at h ⊢
  rw [hI a (by omega) (by omega), hI (a + 6) (by omega) (by omega), hI (a + 7) (by omega) (by omega), hI (a + 2) (by omega) (by omega), hI (a + 5) (by omega) (by omega), hI (a + 3) (by omega) (by omega), hI (a + 4) (by omega) (by omega)]
  exact h
theorem MdP.fr {I I' : Nat → Nat → Int32} {s n od lg m : Nat} {f col std : Nat → Nat} (h : MdP I s n od lg m f col std) (hn : n ≤ 7) (hm : m ≤ 40) (hA : ∀ j, j < 184 → I' 115 (s + j) = I 115 (s + j)) : MdP I' s n od lg m f col std := by
  obtain ⟨h1, h2, h3, h4, h5, h6, h7⟩ := h
  have A0 : I' 115 s = I 115 s := hA 0 (by omega)
  refine ⟨A0.trans h1, (hA 1 (by omega)).trans h2, (hA 2 (by omega)).trans h3, (hA 3 (by omega)).trans h4, fun k hk => ?_, fun d hd => ?_, fun p hp => ?_⟩
  · have a0 := hA (24 + 4 * k) (by omega)
    have a1 := hA (24 + 4 * k + 1) (by omega)
    have a2 := hA (24 + 4 * k + 2) (by omega)
    have a3 := hA (24 + 4 * k + 3) (by omega)
    rw [← Nat.add_assoc] at a0
    rw [← Nat.add_assoc, ← Nat.add_assoc] at a1 a2 a3
    rw [a0, a1, a2, a3]
    exact h5 k hk
  · have a0 := hA (10 + d) (by omega)
    rw [← Nat.add_assoc] at a0
    rw [a0]
    exact h6 d hd
  · have a0 := hA (17 + p) (by omega)
    rw [← Nat.add_assoc] at a0
    rw [a0]
    exact h7 p hp
theorem ggR.fr {I I' : Nat → Nat → Int32} {L L' : Nat → Nat → Int64} {a s t : Nat} (h : ggR I L a s t) (hI : ∀ k, a ≤ k → k < a + 14 → I' k = I k) (hA : ∀ j, j < 544 → I' 115 (s + j) = I 115 (s + j)) (hL : L' (a + 1) = L (a + 1)) (hN : ∀ d, d < 7 → L' 116 (t + d) = L 116 (t + d)) : ggR I' L' a s t := by
  obtain ⟨n, od, lg, m, f, col, std, h1, h2, h3, h4, h5, h6, h7⟩ := h
  refine ⟨n, od, lg, m, f, col, std, h1, h2, h3.fr (fun k q1 q2 => hI k q1 (by omega)), h4.fr h1.1 h1.2.2.2.2.1 (fun j hj => hA j (by omega)), ?_, fun d hd => ?_, h7.fr ?_ ?_ ?_ ?_⟩
  · rw [hA 4 (by omega), hI a (by omega) (by omega)]
    exact h5
  · rw [hN d (by have := h1.1; omega), hL]
    exact h6 d hd
  · rw [hI (a + 8) (by omega) (by omega)]
    exact ⟨rfl, rfl⟩
  · intro j _
    rw [hI (a + 8 + 1) (by omega) (by omega), hI (a + 8 + 2) (by omega) (by omega), hI (a + 8 + 3) (by omega) (by omega), hI (a + 8 + 4) (by omega) (by omega), hI (a + 8 + 5) (by omega) (by omega)]
    exact ⟨rfl, rfl, rfl, rfl, rfl⟩
  · exact fun j _ h => hA j h
  · exact hA 5 (by omega)
theorem trR.fr {I I' : Nat → Nat → Int32} {L L' : Nat → Nat → Int64} (h : trR I L) (hI : ∀ k, (2 ≤ k ∧ k ≤ 9) ∨ k = 117 ∨ k = 118 → I' k = I k) (hL : ∀ k, (2 ≤ k ∧ k ≤ 9) ∨ k = 119 → L' k = L k) : trR I' L' := by
  intro t ht
  rw [hI (2 + 2 * t) (by omega), hI 118 (by omega), hI 117 (by omega), hL (3 + 2 * t) (by omega), hL 119 (by omega)]
  exact h t ht
/-- S' holds what S holds, but the status, what is only tried, and the green b -/
def Keep (b : Nat) (S S' : aw_S) : Prop :=
  (∀ j, j = 2 ∨ j = 4 ∨ j = 5 ∨ j = 9 ∨ j = 14 → S'.1 0 j = S.1 0 j) ∧ (∀ j, j = 10 ∨ j = 16 ∨ j = 17 ∨ j = 50 ∨ j = 51 → S'.1 114 j = S.1 114 j) ∧ (S'.2.1 114 3 = S.2.1 114 3 ∧ S'.2.1 114 4 = S.2.1 114 4) ∧
  (∀ k, (1 ≤ k ∧ k ≤ 86 ∧ ¬ (b ≤ k ∧ k < b + 15)) ∨ k = 95 ∨ k = 98 ∨ k = 111 ∨ (117 ≤ k ∧ k ≤ 120) ∨ k = 142 → (k ≠ 25 ∧ k ≠ 40 ∧ k ≠ 56 ∧ k ≠ 71 ∧ k ≠ 86 → S'.1 k = S.1 k) ∧ (k ≠ 111 ∨ True → S'.2.1 k = S.2.1 k)) ∧
  (∀ j, j < 2208 → S'.1 115 j = S.1 115 j) ∧ (∀ j, j < 28 → S'.2.1 116 j = S.2.1 116 j) ∧
  (∀ q ∈ rfT, S'.2.2 q.1 q.2.1 = S.2.2 q.1 q.2.1) ∧ S'.2.2 0 6 = S.2.2 0 6 ∧ S'.2.2 0 7 = S.2.2 0 7
theorem Inv.keep {b : Nat} {S S' : aw_S} (h : Inv S) (hb : S.2.2 0 7 = some b) (k : Keep b S S') (hs : S'.1 0 3 = S'.1 114 2) : Inv S' := by
  obtain ⟨i1, i2, i3, i4, i5, i6, i7, i8, i9, i10⟩ := h
  obtain ⟨k1, k2, k3, k4, k5, k6, k7, k8, k9⟩ := k
  have hb2 : b = 11 ∨ b = 26 := by
    obtain ⟨a, b', h1, h2, h3, -⟩ := i7
    have e : b = b' := Option.some.inj (hb.symm.trans h2)
    omega
  have gg : ∀ a s t, (a = 11 ∨ a = 26 ∨ a = 42 ∨ a = 57 ∨ a = 72) → a ≠ b → s + 544 ≤ 2208 → t + 7 ≤ 28 → ggR S.1 S.2.1 a s t → ggR S'.1 S'.2.1 a s t := fun a s t ha hab h1 h2 hg => hg.fr (fun k q1 q2 => (k4 k (Or.inl (by omega))).1 (by omega)) (fun j hj => k5 _ (by omega)) ((k4 (a + 1) (Or.inl (by omega))).2 (Or.inr trivial)) (fun d hd => k6 _ (by omega))
  refine ⟨hs, ?_, ?_, ?_, ?_, ?_, ?_, ?_, ?_, ?_⟩
  · rw [k3.1, k3.2, (k4 111 (by omega)).2 (Or.inr trivial)]
    exact i2
  · rw [k1 4 (by omega), k1 5 (by omega), k2 16 (by omega), k2 17 (by omega)]
    exact i3
  · rw [k1 14 (by omega), k2 50 (by omega), (k4 98 (by omega)).1 (by omega), (k4 142 (by omega)).1 (by omega)]
    exact i4
  · rw [k1 2 (by omega), k2 10 (by omega), (k4 10 (by omega)).1 (by omega), (k4 120 (by omega)).1 (by omega)]
    exact i5
  · rw [k1 9 (by omega), k2 51 (by omega)]
    obtain ⟨k, h1, h2, h3, h4⟩ := i6
    exact ⟨k, h1, h2, h3, fun i hi => gg _ _ _ (by omega) (by omega) (by omega) (by omega) (h4 i hi)⟩
  · obtain ⟨a, b', h1, h2, h3, h4⟩ := i7
    have e : b = b' := Option.some.inj (hb.symm.trans h2)
    exact ⟨a, b', k8.trans h1, k9.trans h2, h3, gg _ _ _ (by omega) (by omega) (by omega) (by omega) h4⟩
  · exact i8.fr (fun k hk => (k4 k (by omega)).1 (by omega)) (fun k hk => (k4 k (by omega)).2 (Or.inr trivial))
  · exact fun q hq => (k7 q hq).trans (i9 q hq)
  · rw [(k4 95 (by omega)).2 (Or.inr trivial)]
    exact i10
