/-! marks -/
theorem n552 (t k : Nat) : (552 : Int32) * nI t + nI k = nI (552 * t + k) := by rw [show (552 : Int32) = nI 552 from rfl, pk_mul, nI_add]
theorem n7a (t k : Nat) : (7 : Int32) * nI t + nI k = nI (7 * t + k) := by rw [show (7 : Int32) = nI 7 from rfl, pk_mul, nI_add]
/-- the slot y of the reference is now as x was -/
def SlF (x y : Nat) (S S' : aw_S) : Prop := (∀ k j, ¬ (k = 115 ∧ 552 * y ≤ j ∧ j < 552 * y + 552) → S'.1 k j = S.1 k j) ∧ (∀ j, j < 552 → S'.1 115 (552 * y + j) = S.1 115 (552 * x + j)) ∧ (∀ k j, ¬ (k = 116 ∧ 7 * y ≤ j ∧ j < 7 * y + 7) → S'.2.1 k j = S.2.1 k j) ∧ (∀ j, j < 7 → S'.2.1 116 (7 * y + j) = S.2.1 116 (7 * x + j)) ∧ S'.2.2 = S.2.2
theorem sp_Md_copies {l : Launch} {d : Nat} {S : aw_S} {P : aw_S → Prop} {x y : Nat} (hR : RefsOk S.2.2) (hx : x ≤ 3) (hy : y ≤ 3) (hxy : x ≠ y) (h : ∀ S', SlF x y S S' → P S') : Sp l m_Md_copies (d + 1) 0 0 [.ref 114, .int (nI x), .int (nI y)] sh0 S (gV sh0 P) := by
  have key2 : ∀ j k S', k + j = 7 → (∀ k j, ¬ (k = 115 ∧ 552 * y ≤ j ∧ j < 552 * y + 552) → S'.1 k j = S.1 k j) → (∀ j, j < 552 → S'.1 115 (552 * y + j) = S.1 115 (552 * x + j)) → (∀ c j, ¬ (c = 116 ∧ 7 * y ≤ j ∧ j < 7 * y + 7) → S'.2.1 c j = S.2.1 c j) → (∀ j, j < k → S'.2.1 116 (7 * y + j) = S.2.1 116 (7 * x + j)) → S'.2.2 = S.2.2 → AW l m_Md_copies (d + 1) 0 0 (gV sh0 P) 0 0 41 [.ref 114, .int (nI x), .int (nI y), .int (nI k)] [] sh0 S' := by
    intro j
    induction j with
    | zero =>
      intro k S' hk h1 h2 h3 h4 h5
      have hk : k = 7 := hk
      subst hk
      exact s_Md_copies_41 rfl ⟨fun _ => h S' ⟨h1, h2, h3, h4, h5⟩, fun q => absurd (by decide) q⟩
    | succ j ih =>
      intro k S' hk h1 h2 h3 h4 h5
      refine s_Md_copies_41 rfl ⟨fun q => absurd ((nI_leI (a := 7) (by omega) (by omega)).mp q) (by omega), fun _ => ⟨116, by rw [h5]; exact hR.at (by decide), 42, rfl, ?_, ?_, ?_⟩⟩
      · rw [n7a]; exact vp_in_nI (by omega) (by omega)
      · rw [n7a]; exact vp_in_nI (by omega) (by omega)
      · rw [n7a, n7a, nI_clamp (by omega), nI_clamp (by omega), nI_1]
        refine ih (k + 1) _ (by omega) (fun c i q => h1 c i q) (fun i hi => h2 i hi) (fun c i q => ?_) (fun i hi => ?_) h5
        · rw [uL_at]
          by_cases e : c = 116
          · rw [if_pos e, if_neg (by omega), ← e]
            exact h3 c i q
          · rw [if_neg e]
            exact h3 c i q
        · rw [uL_at, if_pos rfl]
          by_cases e : i = k
          · rw [if_pos (by omega), e]
            exact h3 116 _ (by omega)
          · rw [if_neg (by omega)]
            exact h4 i (by omega)
  have key1 : ∀ j k S', k + j = 552 → (∀ k j, ¬ (k = 115 ∧ 552 * y ≤ j ∧ j < 552 * y + 552) → S'.1 k j = S.1 k j) → (∀ j, j < k → S'.1 115 (552 * y + j) = S.1 115 (552 * x + j)) → S'.2 = S.2 → AW l m_Md_copies (d + 1) 0 0 (gV sh0 P) 0 0 2 [.ref 114, .int (nI x), .int (nI y), .int (nI k)] [] sh0 S' := by
    intro j
    induction j with
    | zero =>
      intro k S' hk h1 h2 h3
      have hk : k = 552 := hk
      subst hk
      exact s_Md_copies_2 rfl ⟨fun _ => key2 7 0 S' (by omega) h1 h2 (fun c i _ => by rw [h3]) (fun i hi => absurd hi (Nat.not_lt_zero i)) (by rw [h3]), fun q => absurd (by decide) q⟩
    | succ j ih =>
      intro k S' hk h1 h2 h3
      refine s_Md_copies_2 rfl ⟨fun q => absurd ((nI_leI (a := 552) (by omega) (by omega)).mp q) (by omega), fun _ => ⟨115, by rw [h3]; exact hR.at (by decide), 3864, rfl, ?_, ?_, ?_⟩⟩
      · rw [n552]; exact vp_in_nI (by omega) (by omega)
      · rw [n552]; exact vp_in_nI (by omega) (by omega)
      · rw [n552, n552, nI_clamp (by omega), nI_clamp (by omega), nI_1]
        refine ih (k + 1) _ (by omega) (fun c i q => ?_) (fun i hi => ?_) h3
        · rw [uI_at]
          by_cases e : c = 115
          · rw [if_pos e, if_neg (by omega), ← e]
            exact h1 c i q
          · rw [if_neg e]
            exact h1 c i q
        · rw [uI_at, if_pos rfl]
          by_cases e : i = k
          · rw [if_pos (by omega), e]
            exact h1 115 _ (by omega)
          · rw [if_neg (by omega)]
            exact h2 i (by omega)
  exact e_Md_copies rfl (key1 552 0 S (by omega) (fun _ _ _ => rfl) (fun i hi => absurd hi (Nat.not_lt_zero i)) rfl)
/-- a green and its slot, copied -/
theorem ggR.cp {S S' : aw_S} {a c s s' t t' : Nat} {g : GM} (hb : bdG g) (hr : redN g.n g.f g.m) (hG : GrG S'.1 a g) (hM : MdG S.1 s g) (hd : S.1 115 (s + 4) = S.1 c 3 + S.1 c 4) (hn : ∀ d, d < g.n → nmR (S.2.1 (c + 1) d) (S.2.1 116 (t + d))) (hf : feR g.n S.1 (c + 8) s)
    (hA : ∀ j, j < 552 → S'.1 115 (s' + j) = S.1 115 (s + j)) (hd' : S'.1 a 3 = S.1 c 3 ∧ S'.1 a 4 = S.1 c 4) (hL : ∀ d, d < 7 → S'.2.1 (a + 1) d = S.2.1 (c + 1) d ∧ S'.2.1 116 (t' + d) = S.2.1 116 (t + d)) (h0 : S'.1 (a + 8) 0 = S.1 (c + 8) 0 ∧ S'.1 (a + 8) 1 = S.1 (c + 8) 1) (h1 : ∀ N, N ≤ 30 → S.1 (c + 8) 1 = nI N → ∀ j, j < N → S'.1 (a + 8 + 1) j = S.1 (c + 8 + 1) j ∧ S'.1 (a + 8 + 2) j = S.1 (c + 8 + 2) j ∧ S'.1 (a + 8 + 3) j = S.1 (c + 8 + 3) j ∧ S'.1 (a + 8 + 4) j = S.1 (c + 8 + 4) j ∧ S'.1 (a + 8 + 5) j = S.1 (c + 8 + 5) j) : ggR S'.1 S'.2.1 a s' t' := by
  have hn7 : g.n ≤ 7 := hb.1
  refine ⟨g.n, g.od, g.lg, g.m, g.f, g.col, g.std, hb, hr, hG, hM.mv hb.1 hb.2.2.2.2.1 (fun j hj => hA j (by omega)), ?_, fun d hd2 => ?_, hf.mv h0 h1 (fun j _ hj => hA j (by omega)) (hA 5 (by omega))⟩
  · rw [hA 4 (by omega), hd'.1, hd'.2]
    exact hd
  · obtain ⟨e1, e2⟩ := hL d (by omega)
    rw [e1, e2]
    exact hn d hd2
theorem ggR.gm {I : Nat → Nat → Int32} {L : Nat → Nat → Int64} {a s t : Nat} (h : ggR I L a s t) : ∃ g : GM, bdG g ∧ redN g.n g.f g.m ∧ GrG I a g ∧ MdG I s g ∧ I 115 (s + 4) = I a 3 + I a 4 ∧ (∀ d, d < g.n → nmR (L (a + 1) d) (L 116 (t + d))) ∧ feR g.n I (a + 8) s := by
  obtain ⟨n, od, lg, m, f, col, std, h⟩ := h
  exact ⟨(n, od, lg, m, f, col, std), h⟩
theorem Inv.mks {S T : aw_S} {p : Nat} (h : Inv S) (hp : p = 11 ∨ p = 26 ∨ p = 42 ∨ p = 57 ∨ p = 72) (hI : ∀ c j, ¬ ((c = 0 ∧ (j = 3 ∨ j = 9)) ∨ (c = 114 ∧ (j = 2 ∨ j = 51)) ∨ (p ≤ c ∧ c < p + 15) ∨ c = 115) → T.1 c j = S.1 c j) (hL : ∀ c j, ¬ (c = p + 1 ∨ c = 116) → T.2.1 c j = S.2.1 c j) (hR : T.2.2 = S.2.2) (hs : T.1 0 3 = T.1 114 2) (h6 : ∃ k, k ≤ 3 ∧ T.1 0 9 = nI k ∧ T.1 114 51 = nI k ∧ ∀ i, i < k → ggR T.1 T.2.1 (42 + 15 * i) (552 * (i + 1)) (7 * (i + 1))) (h7 : ∃ a b, S.2.2 0 6 = some a ∧ S.2.2 0 7 = some b ∧ ((a = 11 ∧ b = 26) ∨ (a = 26 ∧ b = 11)) ∧ ggR T.1 T.2.1 a 0 0) : Inv T := by
  obtain ⟨i1, i2, i3, i4, i5, i6, i7, i8, i9, i10⟩ := h
  have cI : ∀ k, ¬ (k = 0 ∨ k = 114 ∨ (p ≤ k ∧ k < p + 15) ∨ k = 115) → T.1 k = S.1 k := fun k q => funext fun j => hI k j (by omega)
  have cL : ∀ k, ¬ (k = p + 1 ∨ k = 116) → T.2.1 k = S.2.1 k := fun k q => funext fun j => hL k j (by omega)
  refine ⟨hs, ?_, ?_, ?_, ?_, h6, ?_, ?_, ?_, ?_⟩
  · rw [cL 111 (by omega), cL 114 (by omega)]
    exact i2
  · rw [hI 0 4 (by omega), hI 0 5 (by omega), hI 114 16 (by omega), hI 114 17 (by omega)]
    exact i3
  · rw [hI 0 14 (by omega), hI 114 50 (by omega), cI 98 (by omega), cI 142 (by omega)]
    exact i4
  · rw [hI 0 2 (by omega), hI 114 10 (by omega), cI 10 (by omega), cI 120 (by omega)]
    exact i5
  · rw [hR]
    exact h7
  · exact i8.fr (fun k hk => cI k (by omega)) (fun k hk => cL k (by omega))
  · rw [hR]
    exact i9
  · rw [cL 95 (by omega)]
    exact i10
theorem rf_kept {R : Nat → Nat → Option Nat} (h : RefsOk R) {k : Nat} (hk : k < 3) : R 41 k = some (42 + 15 * k) ∧ GrS sh0 R (42 + 15 * k) ∧ FeS sh0 R (42 + 15 * k + 8) := by
  have c : k = 0 ∨ k = 1 ∨ k = 2 := by omega
  rcases c with rfl | rfl | rfl
  · exact ⟨h.at (by decide), GrS.mk0 h (by decide), FeS.mk0 h (by decide)⟩
  · exact ⟨h.at (by decide), GrS.mk0 h (by decide), FeS.mk0 h (by decide)⟩
  · exact ⟨h.at (by decide), GrS.mk0 h (by decide), FeS.mk0 h (by decide)⟩
theorem ok_mark (l : Launch) : Ok_mark l 0 114 sh0 Inv := by
  intro S hI
  obtain ⟨a, b, g, N⟩ := hI.now
  have hS := N.S hI.rf
  have hab := N.ab
  obtain ⟨n1, n2, n3, n4, n5, n6, n7, n8, n9, n10⟩ := id N
  obtain ⟨k, k1, k2, k3, k4⟩ := hI.2.2.2.2.2.1
  have rf := hI.rf
  refine e_Mg_mark rfl ?_
  rw [k2]
  refine ⟨fun q => ?_, fun q => e_Mg_fail rfl (e_Md_mark rfl ⟨fun q2 => ?_, fun _ => e_Md_refuse rfl ⟨rfl, hI.st rfl⟩⟩)⟩
  · have hk : k < 3 := (nI_ltI (by omega) (by omega)).mp q
    obtain ⟨r1, r2, r3⟩ := rf_kept rf hk
    obtain ⟨f0, NF, f1, f2⟩ := n10.c0
    have hFa : FeS sh0 S.2.2 (a + 8) := FeS.mk0 rf (by omega)
    refine ⟨41, rf.at (by decide), 3, rfl, vp_in_nI (by omega) (by omega), 42 + 15 * k, by rw [nI_clamp (by omega)]; exact r1, a, n1, r2.sa, sp_Gr_copyFrom (d := 197) r2 hS (by omega) n4 n6 (fun S9 C9 G9 => ?_)⟩
    obtain ⟨c1, c2, c3, c4, c5⟩ := C9
    rw [c1 0 9 (by omega), k2, c3]
    refine ⟨41, rf.at (by decide), 3, rfl, vp_in_nI (by omega) (by omega), 42 + 15 * k, by rw [nI_clamp (by omega)]; exact r1, r2.sa, 42 + 15 * k + 8, r2.r11, a, n1, hS.sa, a + 8, hS.r11, r3.1, ?_⟩
    refine sp_Fe_copyFrom (d := 198) (n := NF) (by rw [c3]; exact r3) (by rw [c3]; exact hFa) (by omega) (by rw [c1 _ 0 (by omega)]; exact f0) f1 (by rw [c1 _ 1 (by omega)]; exact f2) (fun S21 F21 => ?_)
    obtain ⟨F, w0, w1, w2⟩ := F21
    rw [F.1 0 9 (by omega), c1 0 9 (by omega), k2, nI_1]
    refine e_Mg_give rfl ?_
    -- the class's state
    have hT : ∃ T, T = aw_uI (aw_uI S21 0 9 (nI (k + 1))) 0 3 0 := ⟨_, rfl⟩
    obtain ⟨T, eT⟩ := hT
    have ev : (aw_uI S21 0 9 (nI (k + 1))).1 0 9 = nI (k + 1) := by rw [uI_at, if_pos rfl, if_pos rfl]
    rw [ev, ← eT]
    have T1 : ∀ c j, ¬ ((c = 0 ∧ (j = 3 ∨ j = 9)) ∨ (42 + 15 * k ≤ c ∧ c < 42 + 15 * k + 14)) → T.1 c j = S.1 c j := fun c j q => by
      rw [eT]
      by_cases e : c = 0
      · rw [e, uI_at, if_pos rfl, if_neg (by omega), uI_at, if_pos rfl, if_neg (by omega), F.1 0 j (by omega), c1 0 j (by omega)]
      · rw [uI_ne _ _ _ e, uI_ne _ _ _ e, F.1 c j (by omega), c1 c j (by omega)]
    have T9 : T.1 0 9 = nI (k + 1) := by rw [eT, uI_at, if_pos rfl, if_neg (by omega)]; exact ev
    have T3 : T.1 0 3 = 0 := by rw [eT, uI_at, if_pos rfl, if_pos rfl]
    have T0 : ∀ c, c ≠ 0 → T.1 c = S21.1 c := fun c q => by rw [eT, uI_ne _ _ _ q, uI_ne _ _ _ q]
    have TL : T.2.1 = S9.2.1 := by rw [eT]; exact F.L
    have TR : T.2.2 = S.2.2 := by rw [eT]; exact F.R.trans c3
    have TG : GrG T.1 (42 + 15 * k) g := G9.fr (fun c q1 q2 => by
      rw [T0 c (by omega)]
      exact F.cell (fun j => by omega))
    refine e_Md_mark rfl ?_
    rw [T1 114 51 (by omega), k3]
    refine ⟨fun _ => ?_, fun q => absurd ((nI_inj (b := 3) (by omega) (by omega)).mp q) (by omega)⟩
    rw [nI_1]
    have ev2 : (aw_uI T 114 51 (nI (k + 1))).1 114 51 = nI (k + 1) := by rw [uI_at, if_pos rfl, if_pos rfl]
    rw [ev2]
    refine sp_Md_copies (x := 0) (y := k + 1) (d := 198) (by rw [uI_R, TR]; exact rf) (by omega) (by omega) (by omega) (fun U CU => ?_)
    obtain ⟨u1, u2, u3, u4, u5⟩ := CU
    rw [u1 114 51 (by omega), ev2]
    refine e_Md_gives rfl ⟨rfl, ?_⟩
    have e114 : ∀ c j, c ≠ 114 → (aw_uI U 114 2 0).1 c j = U.1 c j := fun c j q => by rw [uI_ne _ _ _ q]
    have U1 : ∀ c j, ¬ (c = 114 ∨ (c = 115 ∧ 552 * (k + 1) ≤ j ∧ j < 552 * (k + 1) + 552)) → (aw_uI U 114 2 0).1 c j = T.1 c j := fun c j q => by
      rw [e114 c j (by omega), u1 c j (by omega), uI_ne _ _ _ (by omega)]
    have U4 : ∀ j, j ≠ 2 → j ≠ 51 → (aw_uI U 114 2 0).1 114 j = T.1 114 j := fun j q1 q2 => by
      rw [uI_at, if_pos rfl, if_neg q1, u1 114 j (by omega), uI_at, if_pos rfl, if_neg q2]
    have UA : ∀ j, j < 552 → (aw_uI U 114 2 0).1 115 (552 * (k + 1) + j) = S.1 115 (0 + j) := fun j hj => by
      rw [e114 _ _ (by omega), u2 j hj, uI_ne _ _ _ (by omega), T1 115 _ (by omega)]
    have UL : ∀ c j, ¬ (c = 116 ∧ 7 * (k + 1) ≤ j ∧ j < 7 * (k + 1) + 7) → (aw_uI U 114 2 0).2.1 c j = S9.2.1 c j := fun c j q => by
      rw [uI_L, u3 c j q, uI_L, TL]
    have UN : ∀ d, d < 7 → (aw_uI U 114 2 0).2.1 116 (7 * (k + 1) + d) = S.2.1 116 (0 + d) := fun d hd => by
      rw [uI_L, u4 d hd, uI_L, TL, c2 116 _ (by omega)]
    have UR : (aw_uI U 114 2 0).2.2 = S.2.2 := by rw [uI_R, u5, uI_R, TR]
    have U2 : (aw_uI U 114 2 0).1 114 2 = 0 := by rw [uI_at, if_pos rfl, if_pos rfl]
    have U51 : (aw_uI U 114 2 0).1 114 51 = nI (k + 1) := by rw [uI_at, if_pos rfl, if_neg (by omega), u1 114 51 (by omega), ev2]
    generalize aw_uI U 114 2 0 = V at *
    have VI : ∀ c j, ¬ ((c = 0 ∧ (j = 3 ∨ j = 9)) ∨ (c = 114 ∧ (j = 2 ∨ j = 51)) ∨ (42 + 15 * k ≤ c ∧ c < 42 + 15 * k + 15) ∨ (c = 115 ∧ 552 * (k + 1) ≤ j ∧ j < 552 * (k + 1) + 552)) → V.1 c j = S.1 c j := fun c j q => by
      by_cases e : c = 114
      · rw [e, U4 j (by omega) (by omega), T1 114 j (by omega)]
      · rw [U1 c j (by omega), T1 c j (by omega)]
    have VL : ∀ c j, ¬ (c = 42 + 15 * k + 1 ∨ (c = 116 ∧ 7 * (k + 1) ≤ j ∧ j < 7 * (k + 1) + 7)) → V.2.1 c j = S.2.1 c j := fun c j q => by
      rw [UL c j (by omega), c2 c j (by omega)]
    have VT : ∀ c, 42 + 15 * k ≤ c → c < 42 + 15 * k + 14 → V.1 c = T.1 c := fun c q1 q2 => funext fun j => U1 c j (by omega)
    refine hI.mks (p := 42 + 15 * k) (by omega) (fun c j q => VI c j (by omega)) (fun c j q => VL c j (by omega)) UR ?_ ⟨k + 1, by omega, ?_, U51, fun i hi => ?_⟩ ⟨a, b, n1, n2, n3, ?_⟩
    · rw [U2, U1 0 3 (by omega), T3]
    · rw [U1 0 9 (by omega), T9]
    · by_cases e : i = k
      · subst e
        refine ggR.cp (S := S) (c := a) (s := 0) (t := 0) n4 n5 (TG.fr (fun c q1 q2 => VT c (by omega) (by omega))) n7 n8 (fun d hd => by rw [Nat.zero_add]; exact n9 d hd) n10 UA ?_ (fun d hd => ⟨?_, UN d hd⟩) ?_ (fun M hM0 hM1 j hj => ?_)
        · rw [VT _ (by omega) (by omega), T0 _ (by omega)]
          exact ⟨(F.1 _ 3 (by omega)).trans (c4 3 (by omega)), (F.1 _ 4 (by omega)).trans (c4 4 (by omega))⟩
        · rw [UL _ d (by omega), c5 d hd]
        · rw [VT _ (by omega) (by omega), T0 _ (by omega)]
          exact ⟨w0.trans (c1 _ 0 (by omega)), w1.trans (c1 _ 1 (by omega))⟩
        · have eM : M = NF := (nI_inj (by omega) (by omega)).mp (hM1.symm.trans f2)
          obtain ⟨y1, y2, y3, y4, y5⟩ := w2 j (by omega)
          rw [VT _ (by omega) (by omega), VT _ (by omega) (by omega), VT _ (by omega) (by omega), VT _ (by omega) (by omega), VT _ (by omega) (by omega), T0 _ (by omega), T0 _ (by omega), T0 _ (by omega), T0 _ (by omega), T0 _ (by omega)]
          exact ⟨y1.trans (c1 _ j (by omega)), y2.trans (c1 _ j (by omega)), y3.trans (c1 _ j (by omega)), y4.trans (c1 _ j (by omega)), y5.trans (c1 _ j (by omega))⟩
      · exact (k4 i (by omega)).fr (fun c q1 q2 => funext fun j => VI c j (by omega)) (fun j hj => VI 115 _ (by omega)) (funext fun j => VL _ j (by omega)) (fun d hd => VL 116 _ (by omega))
    · exact (ggR.fr ⟨g.n, g.od, g.lg, g.m, g.f, g.col, g.std, n4, n5, n6, n7, n8, (fun d hd => by rw [Nat.zero_add]; exact n9 d hd), n10⟩ (fun c q1 q2 => funext fun j => VI c j (by omega)) (fun j hj => VI 115 _ (by omega)) (funext fun j => VL _ j (by omega)) (fun d hd => VL 116 _ (by omega)))
  · exfalso
    have hk : ¬ k < 3 := fun z => q ((nI_ltI (b := 3) (by omega) (by omega)).mpr z)
    have e : k = 3 := by omega
    rw [uI_ne _ _ _ (by omega), k3, e] at q2
    exact q2 rfl
theorem nI_pr (k : Nat) : nI (k + 1) - 1 = nI k := by rw [← nI_1, Int32.add_sub_cancel]
theorem ok_undo (l : Launch) : Ok_undo l 0 114 sh0 Inv := by
  intro S hI
  obtain ⟨a, b, g0, N⟩ := hI.now
  have hS := N.S hI.rf
  have hab := N.ab
  obtain ⟨n1, n2, n3, -⟩ := id N
  obtain ⟨k, k1, k2, k3, k4⟩ := hI.2.2.2.2.2.1
  have rf := hI.rf
  refine e_Mg_undo rfl ?_
  rw [k2]
  cases k with
  | zero =>
    refine ⟨fun q => absurd rfl q, fun q => e_Mg_fail rfl (e_Md_undo rfl ⟨fun q2 => absurd (by rw [uI_ne _ _ _ (by omega), k3]; rfl) q2, fun _ => e_Md_refuse rfl ⟨rfl, hI.st rfl⟩⟩)⟩
  | succ k =>
    refine ⟨fun _ => ?_, fun q => absurd ((nI_inj (b := 0) (by omega) (by omega)).mp q) (by omega)⟩
    have hk : k < 3 := by omega
    rw [nI_pr]
    obtain ⟨r1, r2, r3⟩ := rf_kept rf hk
    obtain ⟨g, m4, m5, m6, m7, m8, m9, m10⟩ := (k4 k (by omega)).gm
    obtain ⟨f0, NF, f1, f2⟩ := m10.c0
    have hFa : FeS sh0 S.2.2 (a + 8) := FeS.mk0 rf (by omega)
    have ev : (aw_uI S 0 9 (nI k)).1 0 9 = nI k := by rw [uI_at, if_pos rfl, if_pos rfl]
    rw [ev, uI_R]
    have G0 : GrG (aw_uI S 0 9 (nI k)).1 (42 + 15 * k) g := m6.fr (fun c q1 q2 => uI_ne _ _ _ (by omega))
    refine ⟨a, n1, 41, rf.at (by decide), 3, rfl, vp_in_nI (by omega) (by omega), 42 + 15 * k, by rw [nI_clamp (by omega)]; exact r1, hS.sa, sp_Gr_copyFrom (d := 197) hS r2 (by omega) m4 G0 (fun S9 C9 G9 => ?_)⟩
    obtain ⟨c1, c2, c3, c4, c5⟩ := C9
    rw [c1 0 9 (by omega), ev, c3, uI_R]
    have c1' : ∀ c j, ¬ (c = 0 ∨ (c = a ∧ j ≤ 4) ∨ (a + 2 ≤ c ∧ c ≤ a + 7)) → S9.1 c j = S.1 c j := fun c j q => by rw [c1 c j (by omega), uI_ne _ _ _ (by omega)]
    refine ⟨a, n1, hS.sa, a + 8, hS.r11, 41, rf.at (by decide), 3, rfl, vp_in_nI (by omega) (by omega), 42 + 15 * k, by rw [nI_clamp (by omega)]; exact r1, r2.sa, 42 + 15 * k + 8, r2.r11, hFa.1, ?_⟩
    refine sp_Fe_copyFrom (d := 198) (n := NF) (by rw [c3, uI_R]; exact hFa) (by rw [c3, uI_R]; exact r3) (by omega) (by rw [c1' _ 0 (by omega)]; exact f0) f1 (by rw [c1' _ 1 (by omega)]; exact f2) (fun S21 F21 => ?_)
    obtain ⟨F, w0, w1, w2⟩ := F21
    rw [F.1 0 9 (by omega), c1 0 9 (by omega), ev]
    refine e_Mg_give rfl ?_
    have hT : ∃ T, T = aw_uI S21 0 3 0 := ⟨_, rfl⟩
    obtain ⟨T, eT⟩ := hT
    rw [← eT]
    have T1 : ∀ c j, ¬ ((c = 0 ∧ (j = 3 ∨ j = 9)) ∨ (a ≤ c ∧ c < a + 14)) → T.1 c j = S.1 c j := fun c j q => by
      rw [eT, uI_at]
      by_cases e : c = 0
      · rw [if_pos e, if_neg (by omega), F.1 0 j (by omega), c1 0 j (by omega), uI_at, if_pos rfl, if_neg (by omega), e]
      · rw [if_neg e, F.1 c j (by omega), c1' c j (by omega)]
    have T9 : T.1 0 9 = nI k := by rw [eT, uI_at, if_pos rfl, if_neg (by omega), F.1 0 9 (by omega), c1 0 9 (by omega), ev]
    have T3 : T.1 0 3 = 0 := by rw [eT, uI_at, if_pos rfl, if_pos rfl]
    have T0 : ∀ c, c ≠ 0 → T.1 c = S21.1 c := fun c q => by rw [eT, uI_ne _ _ _ q]
    have TL : T.2.1 = S9.2.1 := by rw [eT]; exact F.L
    have TR : T.2.2 = S.2.2 := by rw [eT]; exact F.R.trans c3
    have TG : GrG T.1 a g := G9.fr (fun c q1 q2 => by
      rw [T0 c (by omega)]
      exact F.cell (fun j => by omega))
    refine e_Md_undo rfl ?_
    rw [T1 114 51 (by omega), k3]
    refine ⟨fun _ => ?_, fun q => absurd ((nI_inj (b := 0) (by omega) (by omega)).mp q) (by omega)⟩
    refine sp_Md_copies (x := k + 1) (y := 0) (d := 198) (by rw [TR]; exact rf) (by omega) (by omega) (by omega) (fun U CU => ?_)
    obtain ⟨u1, u2, u3, u4, u5⟩ := CU
    rw [u1 114 51 (by omega), T1 114 51 (by omega), k3, nI_pr]
    have ev2 : (aw_uI U 114 51 (nI k)).1 114 51 = nI k := by rw [uI_at, if_pos rfl, if_pos rfl]
    rw [ev2]
    refine e_Md_gives rfl ⟨rfl, ?_⟩
    have hV : ∃ V, V = aw_uI (aw_uI U 114 51 (nI k)) 114 2 0 := ⟨_, rfl⟩
    obtain ⟨V, eV⟩ := hV
    rw [← eV]
    have e114 : ∀ c j, c ≠ 114 → V.1 c j = U.1 c j := fun c j q => by rw [eV, uI_ne _ _ _ q, uI_ne _ _ _ q]
    have U1 : ∀ c j, ¬ (c = 114 ∨ (c = 115 ∧ j < 552)) → V.1 c j = T.1 c j := fun c j q => by
      rw [e114 c j (by omega), u1 c j (by omega)]
    have U4 : ∀ j, j ≠ 2 → j ≠ 51 → V.1 114 j = T.1 114 j := fun j q1 q2 => by
      rw [eV, uI_at, if_pos rfl, if_neg q1, uI_at, if_pos rfl, if_neg q2, u1 114 j (by omega)]
    have UA : ∀ j, j < 552 → V.1 115 (0 + j) = S.1 115 (552 * (k + 1) + j) := fun j hj => by
      rw [e114 _ _ (by omega)]
      exact (u2 j hj).trans (T1 115 _ (by omega))
    have UL : ∀ c j, ¬ (c = 116 ∧ j < 7) → V.2.1 c j = S9.2.1 c j := fun c j q => by
      rw [eV, uI_L, uI_L, u3 c j (by omega), TL]
    have UN : ∀ d, d < 7 → V.2.1 116 (0 + d) = S.2.1 116 (7 * (k + 1) + d) := fun d hd => by
      rw [eV, uI_L, uI_L]
      refine (u4 d hd).trans ?_
      rw [TL, c2 116 _ (by omega)]
      rfl
    have UR : V.2.2 = S.2.2 := by rw [eV, uI_R, uI_R, u5, TR]
    have U2 : V.1 114 2 = 0 := by rw [eV, uI_at, if_pos rfl, if_pos rfl]
    have U51 : V.1 114 51 = nI k := by rw [eV, uI_at, if_pos rfl, if_neg (by omega), ev2]
    have VI : ∀ c j, ¬ ((c = 0 ∧ (j = 3 ∨ j = 9)) ∨ (c = 114 ∧ (j = 2 ∨ j = 51)) ∨ (a ≤ c ∧ c < a + 14) ∨ (c = 115 ∧ j < 552)) → V.1 c j = S.1 c j := fun c j q => by
      by_cases e : c = 114
      · rw [e, U4 j (by omega) (by omega), T1 114 j (by omega)]
      · rw [U1 c j (by omega), T1 c j (by omega)]
    have VL : ∀ c j, ¬ (c = a + 1 ∨ (c = 116 ∧ j < 7)) → V.2.1 c j = S.2.1 c j := fun c j q => by
      rw [UL c j (by omega), c2 c j (by omega)]
      rfl
    have VT : ∀ c, a ≤ c → c < a + 14 → V.1 c = T.1 c := fun c q1 q2 => funext fun j => U1 c j (by omega)
    refine hI.mks (p := a) (by omega) (fun c j q => VI c j (by omega)) (fun c j q => VL c j (by omega)) UR ?_ ⟨k, by omega, ?_, U51, fun i hi => ?_⟩ ⟨a, b, n1, n2, n3, ?_⟩
    · rw [U2, U1 0 3 (by omega), T3]
    · rw [U1 0 9 (by omega), T9]
    · exact (k4 i (by omega)).fr (fun c q1 q2 => funext fun j => VI c j (by omega)) (fun j hj => VI 115 _ (by omega)) (funext fun j => VL _ j (by omega)) (fun d hd => VL 116 _ (by omega))
    · refine ggR.cp (S := S) (c := 42 + 15 * k) (s := 552 * (k + 1)) (t := 7 * (k + 1)) m4 m5 (TG.fr (fun c q1 q2 => VT c (by omega) (by omega))) m7 m8 m9 m10 UA ?_ (fun d hd => ⟨?_, UN d hd⟩) ?_ (fun M hM0 hM1 j hj => ?_)
      · rw [VT _ (by omega) (by omega), T0 _ (by omega)]
        have x3 := (F.1 a 3 (by omega)).trans (c4 3 (by omega))
        have x4 := (F.1 a 4 (by omega)).trans (c4 4 (by omega))
        rw [uI_ne _ _ _ (by omega)] at x3 x4
        exact ⟨x3, x4⟩
      · rw [UL _ d (by omega), c5 d hd]
        rfl
      · rw [VT _ (by omega) (by omega), T0 _ (by omega)]
        exact ⟨w0.trans (c1' _ 0 (by omega)), w1.trans (c1' _ 1 (by omega))⟩
      · have eM : M = NF := (nI_inj (by omega) (by omega)).mp (hM1.symm.trans f2)
        obtain ⟨y1, y2, y3, y4, y5⟩ := w2 j (by omega)
        rw [VT _ (by omega) (by omega), VT _ (by omega) (by omega), VT _ (by omega) (by omega), VT _ (by omega) (by omega), VT _ (by omega) (by omega), T0 _ (by omega), T0 _ (by omega), T0 _ (by omega), T0 _ (by omega), T0 _ (by omega)]
        exact ⟨y1.trans (c1' _ j (by omega)), y2.trans (c1' _ j (by omega)), y3.trans (c1' _ j (by omega)), y4.trans (c1' _ j (by omega)), y5.trans (c1' _ j (by omega))⟩
