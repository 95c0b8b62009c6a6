/-! pour and feed -/
theorem sp_hasRoom {l : Launch} {d : Nat} {sh : aw_SH} {S : aw_S} {P : Int32 → aw_S → Prop} {a n p q : Nat} (sa : sh[a]? = some (0, 1)) (hn : n ≤ 60) (hp : p < 2 ^ 31) (hq : q < 2 ^ 31) (he : S.1 a 3 = nI n) (h : P (if p + q ≤ n then 1 else 0) S) : Sp l m_Tr_hasRoom (d + 1) 0 0 [.ref a, .int (nI p), .int (nI q)] sh S (gI sh P) := by
  refine e_Tr_hasRoom sa ?_
  rw [he]
  refine ⟨fun c => ?_, fun c => ?_⟩
  · have := (nI_ltI (by omega) hp).mp c
    rw [if_neg (by omega)] at h
    exact h
  · have hpn : p ≤ n := Nat.not_lt.mp (fun z => c ((nI_ltI (by omega) hp).mpr z))
    rw [pk_sub hpn]
    refine ⟨fun c2 => ?_, fun c2 => ?_⟩
    · have := (nI_ltI (by omega) hq).mp c2
      rw [if_neg (by omega)] at h
      exact h
    · have : q ≤ n - p := Nat.not_lt.mp (fun z => c2 ((nI_ltI (by omega) hq).mpr z))
      rw [if_pos (by omega)] at h
      exact h
/-- many > size - place, in the reference's words -/
theorem room_iff {n p q : Nat} (hn : n ≤ 60) (hp : p < 2 ^ 31) (hq : q < 2 ^ 31) : nI n - nI p < nI q ↔ ¬ p + q ≤ n := by
  rw [Int32.lt_iff_toInt_lt]
  have e : (nI n - nI p).toInt = (n : Int) - p := by
    rw [Int32.toInt_sub, nI_toInt (by omega), nI_toInt hp]
    apply Int.bmod_eq_of_le <;> omega
  rw [e, nI_toInt hq]
  omega
def pourL (S : aw_S) (t p u q m : Nat) : aw_S := aw_wL S (3 + 2 * u) (va_cpy (S.2.1 (3 + 2 * t)) (S.2.1 (3 + 2 * u)) p q m)
/-- the refusals of pour -/
def PourC (S : aw_S) (x y z w v c : Int32) : Prop :=
  (c = 1 ∧ ¬ ((0 ≤ x ∧ x ≤ 3) ∧ (0 ≤ z ∧ z ≤ 3) ∧ 0 ≤ y ∧ 0 ≤ w ∧ 0 ≤ v)) ∨
  (∃ t u p q m : Nat, t < 4 ∧ u < 4 ∧ p < 2 ^ 31 ∧ q < 2 ^ 31 ∧ m < 2 ^ 31 ∧ x = nI t ∧ z = nI u ∧ y = nI p ∧ w = nI q ∧ v = nI m ∧
    ((c = 2 ∧ (S.1 (2 + 2 * t) 1 = 0 ∨ S.1 (2 + 2 * u) 1 = 0)) ∨
     (S.1 (2 + 2 * t) 1 = 1 ∧ S.1 (2 + 2 * u) 1 = 1 ∧ ∃ n n' k k' : Nat, n ≤ 60 ∧ n' ≤ 60 ∧ k ≤ 3 ∧ k' ≤ 3 ∧ S.1 (2 + 2 * t) 3 = nI n ∧ S.1 (2 + 2 * u) 3 = nI n' ∧ S.1 (2 + 2 * t) 2 = nI k ∧ S.1 (2 + 2 * u) 2 = nI k' ∧
       ((c = 8 ∧ k ≠ k') ∨ (c = 3 ∧ k = k' ∧ ¬ (p + m ≤ n ∧ q + m ≤ n')) ∨ (c = 0 ∧ k = k' ∧ p + m ≤ n ∧ q + m ≤ n')))))
theorem pour_ex {S : aw_S} (h : trR S.1 S.2.1) (x y z w v : Int32) : ∃ c, PourC S x y z w v c := by
  by_cases c1 : (0 ≤ x ∧ x ≤ 3) ∧ (0 ≤ z ∧ z ≤ 3) ∧ 0 ≤ y ∧ 0 ≤ w ∧ 0 ≤ v
  · obtain ⟨t, ht, ex⟩ := le_ge (n := 3) (by decide) c1.1
    obtain ⟨u, hu, ez⟩ := le_ge (n := 3) (by decide) c1.2.1
    obtain ⟨p, hp, ey⟩ := nI_of (Int32.not_lt.mpr c1.2.2.1)
    obtain ⟨q, hq, ew⟩ := nI_of (Int32.not_lt.mpr c1.2.2.2.1)
    obtain ⟨m, hm, ev⟩ := nI_of (Int32.not_lt.mpr c1.2.2.2.2)
    have mk : ∀ c, _ → PourC S x y z w v c := fun c hc => Or.inr ⟨t, u, p, q, m, by omega, by omega, hp, hq, hm, ex, ez, ey, ew, ev, hc⟩
    rcases h t (by omega) with ⟨h1, -⟩ | ⟨h1, n, k, h2, h3, h4, -, h6, -, -⟩
    · exact ⟨2, mk 2 (Or.inl ⟨rfl, Or.inl h1⟩)⟩
    · rcases h u (by omega) with ⟨g1, -⟩ | ⟨g1, n', k', g2, g3, g4, -, g6, -, -⟩
      · exact ⟨2, mk 2 (Or.inl ⟨rfl, Or.inr g1⟩)⟩
      · have mk2 : ∀ c, _ → PourC S x y z w v c := fun c hc => mk c (Or.inr ⟨h1, g1, n, n', k, k', h2, g2, h3, g3, h4, g4, h6, g6, hc⟩)
        by_cases e : k = k'
        · by_cases r : p + m ≤ n ∧ q + m ≤ n'
          · exact ⟨0, mk2 0 (Or.inr (Or.inr ⟨rfl, e, r.1, r.2⟩))⟩
          · exact ⟨3, mk2 3 (Or.inr (Or.inl ⟨rfl, e, r⟩))⟩
        · exact ⟨8, mk2 8 (Or.inl ⟨rfl, e⟩)⟩
  · exact ⟨1, Or.inl ⟨rfl, c1⟩⟩
theorem sp_Mg_pour {l : Launch} {d : Nat} {S : aw_S} {P : Int32 → aw_S → Prop} {x y z w v c : Int32} (hR : RefsOk S.2.2) (hc : PourC S x y z w v c) (hb : ∀ t, t < 4 → S.1 (2 + 2 * t) 1 = 0 ∨ S.1 (2 + 2 * t) 1 = 1) (h1 : ¬ c = 0 → P 0 (aw_uI S 0 3 c)) (h2 : ∀ t u p q m, t < 4 → u < 4 → p + m ≤ 60 → q + m ≤ 60 → x = nI t → z = nI u → y = nI p → w = nI q → v = nI m → c = 0 → P 1 (aw_uI (pourL S t p u q m) 0 3 0)) : Sp l m_Mg_pour (d + 3) 0 0 [.ref 0, .int x, .int y, .int z, .int w, .int v] sh0 S (gI sh0 P) := by
  have bad : ¬ c = 0 → ∀ T, T = S → Sp l m_Mg_refuse (d + 2) 0 0 [.ref 0, .int c] sh0 T (gI sh0 (fun r S' => ((r = 0 ∨ r = 1) ∧ P r S'))) := fun q T hT => by
    subst hT
    exact e_Mg_refuse rfl ⟨Or.inl rfl, h1 q⟩
  refine e_Mg_pour rfl (sp_isTray ?_)
  rcases hc with ⟨rfl, hc⟩ | ⟨t, u, p, q, m, ht, hu, hp, hq, hm, ex, ez, ey, ew, ev, hc⟩
  · by_cases c1 : 0 ≤ x ∧ x ≤ 3
    · rw [if_pos c1]
      refine ⟨fun q => absurd q (by decide), fun _ => sp_isTray ?_⟩
      by_cases c2 : 0 ≤ z ∧ z ≤ 3
      · rw [if_pos c2]
        exact ⟨fun q => absurd q (by decide), fun _ => ⟨fun _ => bad (by decide) _ rfl, fun a1 => ⟨fun _ => bad (by decide) _ rfl, fun a2 => ⟨fun a3 => absurd ⟨c1, c2, Int32.not_lt.mp a1, Int32.not_lt.mp a2, a3⟩ hc, fun _ => bad (by decide) _ rfl⟩⟩⟩⟩
      · rw [if_neg c2]
        exact ⟨fun _ => bad (by decide) _ rfl, fun q => absurd rfl q⟩
    · rw [if_neg c1]
      exact ⟨fun _ => bad (by decide) _ rfl, fun q => absurd rfl q⟩
  · have hp2 := fun e1 e2 e3 => h2 t u p q m ht hu e1 e2 ex ez ey ew ev e3
    subst ex; subst ez; subst ey; subst ew; subst ev
    obtain ⟨g1, g2⟩ := rf_tray hR ht
    obtain ⟨s1, s2⟩ := sh_tray t ht
    obtain ⟨g1', g2'⟩ := rf_tray hR hu
    obtain ⟨s1', s2'⟩ := sh_tray u hu
    have n1 : ∀ i : Nat, i < 4 → 0 ≤ nI i ∧ nI i ≤ 3 := fun i hi => ⟨nI_pos' (by omega), nI_le (b := 3) (by omega) (by omega)⟩
    have n2 : ∀ i : Nat, i < 2 ^ 31 → ¬ nI i < 0 := fun i hi => nI_pos hi
    rw [if_pos (n1 t ht)]
    refine ⟨fun q => absurd q (by decide), fun _ => sp_isTray ?_⟩
    rw [if_pos (n1 u hu)]
    refine ⟨fun q => absurd q (by decide), fun _ => ⟨fun a => absurd a (n2 p hp), fun _ => ⟨fun a => absurd a (n2 q hq), fun _ => ⟨fun _ => ⟨1, hR.at (by decide), 4, rfl, vp_in_nI (by omega) (by omega), 2 + 2 * t, by rw [nI_clamp (by omega)]; exact g1, vp_in_nI (by omega) (by omega), 2 + 2 * u, by rw [nI_clamp (by omega)]; exact g1', s1, ?_⟩, fun a => absurd (nI_pos' hm) a⟩⟩⟩⟩
    rcases hc with ⟨rfl, hc⟩ | ⟨t1, u1, n, n', k, k', hn, hn', hk, hk', e1, e2, e3, e4, hc⟩
    · refine ⟨fun _ => bad (by decide) _ rfl, fun a => ⟨s1', fun b => ?_, fun _ => bad (by decide) _ rfl⟩⟩
      rcases hc with hc | hc
      · exact absurd hc a
      · exact absurd hc b
    · refine ⟨fun a => absurd (t1.symm.trans a) (by decide), fun _ => ⟨s1', fun _ => ?_, fun a => absurd (u1.symm.trans a) (by decide)⟩⟩
      rw [e3, e4]
      rcases hc with ⟨rfl, hc⟩ | ⟨rfl, rfl, hc⟩ | ⟨rfl, rfl, hc, hc'⟩
      · exact ⟨fun a => absurd ((nI_inj (by omega) (by omega)).mp a) hc, fun _ => bad (by decide) _ rfl⟩
      · refine ⟨fun _ => sp_hasRoom s1 hn hp hm e1 ?_, fun a => absurd rfl a⟩
        by_cases r1 : p + m ≤ n
        · rw [if_pos r1]
          refine ⟨fun a => absurd a (by decide), fun _ => sp_hasRoom s1' hn' hq hm e2 ?_⟩
          rw [if_neg (fun a => hc ⟨r1, a⟩)]
          exact ⟨fun a => absurd rfl a, fun _ => bad (by decide) _ rfl⟩
        · rw [if_neg r1]
          exact ⟨fun _ => bad (by decide) _ rfl, fun a => absurd rfl a⟩
      · refine ⟨fun _ => sp_hasRoom s1 hn hp hm e1 ?_, fun a => absurd rfl a⟩
        rw [if_pos hc]
        refine ⟨fun a => absurd a (by decide), fun _ => sp_hasRoom s1' hn' hq hm e2 ?_⟩
        rw [if_pos hc']
        refine ⟨fun _ => ⟨3 + 2 * t, g2, 3 + 2 * u, g2', 60, s2, 60, s2', n2 p hp, n2 q hq, n2 m hm, by rw [nI_clamp hp, nI_clamp hm]; omega, by rw [nI_clamp hq, nI_clamp hm]; omega, e_Mg_grant rfl ⟨Or.inr rfl, ?_⟩⟩, fun a => absurd a (by decide)⟩
        have e : aw_cpl S (3 + 2 * t) (3 + 2 * u) (nI p) (nI q) (nI m) = pourL S t p u q m := by
          unfold aw_cpl pourL aw_wL
          rw [nI_clamp hp, nI_clamp hq, nI_clamp hm]
        rw [e]
        exact hp2 (by omega) (by omega) rfl
