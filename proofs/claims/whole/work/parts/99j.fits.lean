/-! what a tray must hold -/
theorem lN_of {v : Int64} {m : Nat} (hm : m < 2 ^ 31) (h0 : ¬ v < 0) (h1 : v < lN m) : ∃ k, k < m ∧ v = lN k := by
  have a0 : 0 ≤ v.toInt := by
    have := mt Int64.lt_iff_toInt_lt.mpr h0
    rw [show (0 : Int64).toInt = 0 from rfl] at this
    omega
  have a1 := Int64.lt_iff_toInt_lt.mp h1
  rw [lN_toInt hm] at a1
  refine ⟨v.toInt.toNat, by omega, Int64.toInt_inj.mp ?_⟩
  rw [lN_toInt (by omega)]
  omega
theorem lN_in {v : Int64} {k m : Nat} (hm : m < 2 ^ 31) (hk : k < m) (e : v = lN k) : ¬ v < 0 ∧ v < lN m := by
  subst e
  refine ⟨?_, (lN_lt (by omega) hm).mpr hk⟩
  intro z
  have := Int64.lt_iff_toInt_lt.mp z
  rw [lN_toInt (by omega), show (0 : Int64).toInt = 0 from rfl] at this
  omega
theorem l_m1 : ∀ m, m < 100 → (lN m - 1).toInt = (m : Int) - 1 := by decide +kernel
theorem l_from {v : Int64} {m : Nat} (hm : m < 100) : (0 ≤ v ∧ v ≤ lN m - 1) ↔ (¬ v < 0 ∧ v < lN m) := by
  have a1 : v < lN m ↔ v.toInt < m := by rw [Int64.lt_iff_toInt_lt, lN_toInt (by omega)]
  have a2 : v ≤ lN m - 1 ↔ v.toInt ≤ (m : Int) - 1 := by rw [Int64.le_iff_toInt_le, l_m1 m hm]
  have a3 : (0 ≤ v) ↔ ¬ v < 0 := by rw [Int64.not_lt]
  rw [a1, a2, a3]
  constructor <;> intro ⟨x, y⟩ <;> exact ⟨x, by omega⟩
section AB
variable {l : Launch} {d : Nat} {S : aw_S}
theorem sp_areBelow {P : Int32 → aw_S → Prop} {t fr ah st N : Nat} {lim : Int64} (hR : RefsOk S.2.2) (ht : t < 4) (hN : ∀ i, fr + i * st < ah ↔ i < N) (hah : ah ≤ 60) (hst : st ≤ 2) (hfr : fr ≤ 1) (h1 : (∀ i, i < N → ¬ S.2.1 (3 + 2 * t) (fr + i * st) < 0 ∧ S.2.1 (3 + 2 * t) (fr + i * st) < lim) → P 1 S) (h0 : ¬ (∀ i, i < N → ¬ S.2.1 (3 + 2 * t) (fr + i * st) < 0 ∧ S.2.1 (3 + 2 * t) (fr + i * st) < lim) → P 0 S) : Sp l m_Tr_areBelow (d + 1) 0 0 [.ref (2 + 2 * t), .int (nI fr), .int (nI ah), .int (nI st), .long lim] sh0 S (gI sh0 P) := by
  obtain ⟨s1, s2⟩ := sh_tray t ht
  obtain ⟨r1, r2⟩ := rf_tray hR ht
  have key : ∀ j i, i + j = N → (∀ y, y < i → ¬ S.2.1 (3 + 2 * t) (fr + y * st) < 0 ∧ S.2.1 (3 + 2 * t) (fr + y * st) < lim) → AW l m_Tr_areBelow (d + 1) 0 0 (gI sh0 P) 0 0 3 [.ref (2 + 2 * t), .null, .int (nI ah), .int (nI st), .long lim, .null, .int (nI (fr + i * st))] [] sh0 S := by
    intro j
    induction j with
    | zero =>
      intro i hi hy
      have hi : i = N := hi
      subst hi
      have hge : ¬ fr + i * st < ah := fun z => absurd ((hN i).mp z) (Nat.lt_irrefl i)
      have hle : fr + i * st < 2 ^ 31 := by
        by_cases c : i = 0
        · rw [c, Nat.zero_mul]; omega
        · have h2 := (hN (i - 1)).mpr (by omega)
          have h3 : i * st = (i - 1) * st + st := by
            conv => lhs; rw [show i = (i - 1) + 1 by omega, Nat.succ_mul]
          omega
      exact s_Tr_areBelow_3 s1 ⟨fun _ => h1 hy, fun q => absurd (nI_le (by omega) hle) q⟩
    | succ j ih =>
      intro i hi hy
      have hlt := (hN i).mpr (by omega)
      have en : fr + i * st + st = fr + (i + 1) * st := by rw [Nat.succ_mul]; omega
      refine s_Tr_areBelow_3 s1 ⟨fun q => absurd q (nI_ge hlt (by omega)), fun _ => ⟨3 + 2 * t, r2, 60, s2, vp_in_nI (by omega) (by omega), ?_⟩⟩
      rw [nI_clamp (by omega), nI_add, en]
      refine ⟨fun q => h0 (fun z => (z i (by omega)).1 ((lg_lt0 _ _).mp q)), fun q => ⟨vp_in_nI (by omega) (by omega), fun q2 => ih (i + 1) (by omega) (fun y hy2 => ?_), fun q2 => h0 (fun z => q2 ((lg_lt0 _ _).mpr (z i (by omega)).2))⟩⟩
      by_cases e : y = i
      · rw [e]
        exact ⟨fun z => q ((lg_lt0 _ _).mpr z), (lg_lt0 _ _).mp q2⟩
      · exact hy y (by omega)
  have k0 := key N 0 (by omega) (fun y hy => absurd hy (Nat.not_lt_zero y))
  rw [Nat.zero_mul, Nat.add_zero] at k0
  exact e_Tr_areBelow s1 k0
end AB
/-- what both say of gaps and colours in a tray -/
theorem seen_cases {l : Launch} {S : aw_S} {a b : Nat} {g : GM} (hI : Inv S) (N : NowI S a b g) (x y z : Int32) :
    (∃ e : Int32, ¬ e = 0 ∧ ¬ e ≤ 0 ∧ (∀ P : Int32 → aw_S → Prop, P e S → Sp l m_Mg_seenProblem 199 0 0 [.ref 0, .int x, .int y, .int z] sh0 S (gI sh0 P)) ∧ (∀ s (P : Int32 → aw_S → Prop), P e (aw_uI S 0 3 s) → Sp l m_Md_wrongSeen 199 0 0 [.ref 114, .int x, .int y, .int z] sh0 (aw_uI S 0 3 s) (gI sh0 P))) ∨
    (∃ (t n k : Nat) (G C : Nat → Nat), t < 4 ∧ n ≤ 20 ∧ k ≤ 4 ∧ x = nI t ∧ y = nI n ∧ z = nI k ∧ (∀ i, i < n → G i < gpN g.n ∧ C i ≤ 6) ∧ (∀ i, i < n → S.2.1 (3 + 2 * t) (2 * i) = lN (G i) ∧ S.2.1 (3 + 2 * t) (2 * i + 1) = lN (C i)) ∧ (∀ i, i < n → S.2.1 119 (60 * t + 2 * i) = lN (G i) ∧ S.2.1 119 (60 * t + 2 * i + 1) = lN (C i)) ∧
      (∀ P : Int32 → aw_S → Prop, P 0 S → Sp l m_Mg_seenProblem 199 0 0 [.ref 0, .int x, .int y, .int z] sh0 S (gI sh0 P)) ∧ (∀ S' (P : Int32 → aw_S → Prop), RefsOk S'.2.2 → S'.2.1 119 = S.2.1 119 → S'.1 118 = S.1 118 → S'.1 115 0 = S.1 115 0 → P 0 S' → Sp l m_Md_wrongSeen 199 0 0 [.ref 114, .int x, .int y, .int z] sh0 S' (gI sh0 P))) := by
  have hS := N.S hI.rf
  obtain ⟨n1, n2, n3, n4, n5, n6, n7, n8, n9, n10⟩ := id N
  have hn : g.n ≤ 7 := n4.1
  have hgp := gp_le g.n
  have htr := hI.2.2.2.2.2.2.2.1
  by_cases c1 : 0 ≤ x ∧ x ≤ 3
  · have c1' : (if 0 ≤ x ∧ x ≤ 3 then (1 : Int32) else 0) = 1 := if_pos c1
    by_cases c2 : 0 ≤ y ∧ y ≤ 20
    · have c2' : (if 0 ≤ y ∧ y ≤ 20 then (1 : Int32) else 0) = 1 := if_pos c2
      by_cases c3 : 0 ≤ z ∧ z ≤ 4
      · have c3' : (if 0 ≤ z ∧ z ≤ 4 then (1 : Int32) else 0) = 1 := if_pos c3
        obtain ⟨t, ht, rfl⟩ := le_ge (n := 3) (by decide) c1
        obtain ⟨n, hn20, rfl⟩ := le_ge (n := 20) (by decide) c2
        obtain ⟨k, hk, rfl⟩ := le_ge (n := 4) (by decide) c3
        obtain ⟨g1, g2⟩ := rf_tray hI.rf (show t < 4 by omega)
        obtain ⟨s1, s2⟩ := sh_tray t (by omega)
        have x2 : (2 : Int32) * nI n = nI (2 * n) := by rw [show (2 : Int32) = nI 2 from rfl, pk_mul]
        have start : ∀ {P : Int32 → aw_S → Prop}, ((¬ (S.1 (2 + 2 * t) 1) = 0 → ((nI (2 * n) ≤ (S.1 (2 + 2 * t) 3) → ∃ r18, S.2.2 0 6 = some r18 ∧ sh0[r18]? = some (0, 2) ∧ Sp l m_Gr_gaps 198 0 0 [.ref r18] sh0 S (gI sh0 (fun x21 S20 => Sp l m_Tr_areBelow 198 0 0 [.ref (2 + 2 * t), .int 0, .int (nI (2 * n)), .int 2, .long x21.toInt64] sh0 S20 (gI sh0 (fun x23 S22 => Sp l m_Tr_areBelow 198 0 0 [.ref (2 + 2 * t), .int 1, .int (nI (2 * n)), .int 2, .long 7] sh0 S22 (gI sh0 (fun x25 S24 => ((x23 = 0 → P 5 S24) ∧ (¬ x23 = 0 → ((x25 = 0 → P 5 S24) ∧ (¬ x25 = 0 → P 0 S24))))))))))) ∧ (¬ nI (2 * n) ≤ (S.1 (2 + 2 * t) 3) → P 3 S))) ∧ ((S.1 (2 + 2 * t) 1) = 0 → P 2 S)) → Sp l m_Mg_seenProblem 199 0 0 [.ref 0, .int (nI t), .int (nI n), .int (nI k)] sh0 S (gI sh0 P) := fun {P} h => by
          refine e_Mg_seenProblem rfl (sp_isTray (d := 196) ?_)
          rw [c1']
          refine ⟨fun q => absurd q (by decide), fun _ => sp_isWithin (d := 197) ?_⟩
          rw [c2']
          refine ⟨fun q => absurd q (by decide), fun _ => sp_isWithin (d := 197) ?_⟩
          rw [c3']
          refine ⟨fun _ => ⟨1, hI.rf.at (by decide), 4, rfl, vp_in_nI (by omega) (by omega), 2 + 2 * t, by rw [nI_clamp (by omega)]; exact g1, s1, ?_⟩, fun q => absurd q (by decide)⟩
          rw [x2]
          exact h
        have startM : ∀ {S' : aw_S} {P : Int32 → aw_S → Prop}, RefsOk S'.2.2 → ((¬ (S'.1 118 t) = (-1) → ((nI (2 * n) ≤ (S'.1 118 t) → AW l m_Md_wrongSeen 199 0 0 (gI sh0 P) 0 0 62 [.ref 114, .int (nI t), .int (nI n), .null, .int 0, .null] [] sh0 S') ∧ (¬ nI (2 * n) ≤ (S'.1 118 t) → P 3 S'))) ∧ ((S'.1 118 t) = (-1) → P 2 S')) → Sp l m_Md_wrongSeen 199 0 0 [.ref 114, .int (nI t), .int (nI n), .int (nI k)] sh0 S' (gI sh0 P) := fun {S'} {P} rr h => by
          refine e_Md_wrongSeen rfl (sp_mIsTray (d := 197) ?_)
          rw [c1']
          refine ⟨fun q => absurd q (by decide), fun _ => sp_isFrom (d := 197) (y := 0) (z := 20) (by decide) (by decide) (fun _ => ⟨fun q => absurd q (by decide), fun _ => sp_isFrom (d := 197) (y := 0) (z := 4) (by decide) (by decide) (fun _ => ⟨fun _ => ⟨118, rr.at (by decide), 4, rfl, vp_in_nI (by omega) (by omega), ?_⟩, fun q => absurd q (by decide)⟩) (fun w => absurd c3 w)⟩) (fun w => absurd c2 w)⟩
          rw [nI_clamp (by omega), x2]
          exact ⟨fun q => ⟨vp_in_nI (by omega) (by omega), h.1 q⟩, h.2⟩
        rcases htr t (by omega) with ⟨h1, h2⟩ | ⟨h1, m, kd, h2, h3, h4, h5, h6, h7, h8⟩
        · refine Or.inl ⟨2, by decide, by decide, fun P hP => start ⟨fun q => absurd h1 q, fun _ => hP⟩, fun s P hP => startM (by rw [uI_R]; exact hI.rf) ⟨fun q => absurd ?_ q, fun _ => hP⟩⟩
          rw [uI_ne _ _ _ (by omega)]; exact h2
        · have z1 : ¬ S.1 (2 + 2 * t) 1 = 0 := fun q => absurd (h1.symm.trans q) (by decide)
          have z2 : ¬ nI m = -1 := nI_ne_m1 (by omega)
          by_cases c4 : 2 * n ≤ m
          · -- the values
            have cv : ∀ j, j < 2 * n → S.2.1 (3 + 2 * t) j = S.2.1 119 (60 * t + j) := fun j hj => h8 j (by omega)
            have hgt : (nI (gpN g.n)).toInt64 = lN (gpN g.n) := nI_l (by omega)
            have loop : ∀ (S' : aw_S) (P : Int32 → aw_S → Prop), RefsOk S'.2.2 → S'.2.1 119 = S.2.1 119 → S'.1 115 0 = S.1 115 0 → ((∀ i, i < n → (¬ S.2.1 119 (60 * t + 2 * i) < 0 ∧ S.2.1 119 (60 * t + 2 * i) < lN (gpN g.n)) ∧ (¬ S.2.1 119 (60 * t + 2 * i + 1) < 0 ∧ S.2.1 119 (60 * t + 2 * i + 1) < lN 7)) → P 0 S') → (¬ (∀ i, i < n → (¬ S.2.1 119 (60 * t + 2 * i) < 0 ∧ S.2.1 119 (60 * t + 2 * i) < lN (gpN g.n)) ∧ (¬ S.2.1 119 (60 * t + 2 * i + 1) < 0 ∧ S.2.1 119 (60 * t + 2 * i + 1) < lN 7)) → P 5 S') → AW l m_Md_wrongSeen 199 0 0 (gI sh0 P) 0 0 62 [.ref 114, .int (nI t), .int (nI n), .null, .int 0, .null] [] sh0 S' := by
              intro S' P rr eL e0 k0 k5
              have key : ∀ j i, i + j = n → (∀ y, y < i → (¬ S.2.1 119 (60 * t + 2 * y) < 0 ∧ S.2.1 119 (60 * t + 2 * y) < lN (gpN g.n)) ∧ (¬ S.2.1 119 (60 * t + 2 * y + 1) < 0 ∧ S.2.1 119 (60 * t + 2 * y + 1) < lN 7)) → AW l m_Md_wrongSeen 199 0 0 (gI sh0 P) 0 0 62 [.ref 114, .int (nI t), .int (nI n), .null, .int (nI i), .null] [] sh0 S' := by
                intro j
                induction j with
                | zero =>
                  intro i hi hy
                  have hi : i = n := hi
                  subst hi
                  exact s_Md_wrongSeen_62 rfl ⟨fun _ => k0 hy, fun q => absurd (nI_le (Nat.le_refl _) (by omega)) q⟩
                | succ j ih =>
                  intro i hi hy
                  refine s_Md_wrongSeen_62 rfl ⟨fun q => absurd q (nI_ge (by omega) (by omega)), fun _ => ⟨119, rr.at (by decide), 240, rfl, ?_, ?_⟩⟩
                  · rw [n60c]; exact vp_in_nI (by omega) (by omega)
                  · rw [n60c, nI_clamp (by omega), eL]
                    refine sp_Md_gapsOf (s := 0) (d := 197) (MdS.mk0 rr) (by omega) hn (e0.trans n7.1) ?_
                    rw [hgt]
                    refine sp_isFromL (d := 197) (fun w1 w2 => ⟨fun q => absurd q (by decide), fun _ => ⟨119, rr.at (by decide), 240, rfl, ?_, ?_⟩⟩) (fun w => ⟨fun _ => k5 (fun v => w ((l_from (by omega)).mpr (v i (by omega)).1)), fun q => absurd rfl q⟩)
                    · rw [nI_1]; exact vp_in_nI (by omega) (by omega)
                    · rw [nI_1, nI_clamp (by omega), eL, nI_1, show (6 : Int64) = lN 7 - 1 by decide]
                      refine sp_isFromL (d := 197) (fun w3 w4 => ⟨fun _ => ih (i + 1) (by omega) (fun y hy2 => ?_), fun q => absurd q (by decide)⟩) (fun w => ⟨fun q => absurd rfl q, fun _ => k5 (fun v => w ((l_from (by omega)).mpr (v i (by omega)).2))⟩)
                      by_cases e : y = i
                      · rw [e]
                        exact ⟨(l_from (by omega)).mp ⟨w1, w2⟩, (l_from (by omega)).mp ⟨w3, w4⟩⟩
                      · exact hy y (by omega)
              exact key n 0 (by omega) (fun y hy => absurd hy (Nat.not_lt_zero y))
            have below : ∀ (P : Int32 → aw_S → Prop), ((∀ i, i < n → (¬ S.2.1 119 (60 * t + 2 * i) < 0 ∧ S.2.1 119 (60 * t + 2 * i) < lN (gpN g.n)) ∧ (¬ S.2.1 119 (60 * t + 2 * i + 1) < 0 ∧ S.2.1 119 (60 * t + 2 * i + 1) < lN 7)) → P 0 S) → (¬ (∀ i, i < n → (¬ S.2.1 119 (60 * t + 2 * i) < 0 ∧ S.2.1 119 (60 * t + 2 * i) < lN (gpN g.n)) ∧ (¬ S.2.1 119 (60 * t + 2 * i + 1) < 0 ∧ S.2.1 119 (60 * t + 2 * i + 1) < lN 7)) → P 5 S) → Sp l m_Mg_seenProblem 199 0 0 [.ref 0, .int (nI t), .int (nI n), .int (nI k)] sh0 S (gI sh0 P) := by
              intro P k0 k5
              have ea : ∀ i, i < n → S.2.1 (3 + 2 * t) (0 + i * 2) = S.2.1 119 (60 * t + 2 * i) := fun i hi => by
                rw [cv _ (by omega), show 60 * t + (0 + i * 2) = 60 * t + 2 * i by omega]
              have eb : ∀ i, i < n → S.2.1 (3 + 2 * t) (1 + i * 2) = S.2.1 119 (60 * t + 2 * i + 1) := fun i hi => by
                rw [cv _ (by omega), show 60 * t + (1 + i * 2) = 60 * t + 2 * i + 1 by omega]
              refine start ⟨fun _ => ⟨fun _ => ⟨a, n1, hS.sa, sp_Gr_gaps (d := 197) hS.sa hn n6.1 ?_⟩, fun q => absurd (by rw [h4]; exact nI_le c4 (by omega)) q⟩, fun q => absurd q z1⟩
              rw [hgt]
              refine sp_areBelow (d := 197) (fr := 0) (st := 2) (N := n) hI.rf (by omega) (fun i => by omega) (by omega) (by omega) (by omega) (fun w => ?_) (fun w => ?_)
              · refine sp_areBelow (d := 197) (fr := 1) (st := 2) (N := n) hI.rf (by omega) (fun i => by omega) (by omega) (by omega) (by omega) (fun w2 => ⟨fun q => absurd q (by decide), fun _ => ⟨fun q => absurd q (by decide), fun _ => k0 (fun i hi => ⟨?_, ?_⟩)⟩⟩) (fun w2 => ⟨fun q => absurd q (by decide), fun _ => ⟨fun _ => k5 (fun v => w2 (fun i hi => ?_)), fun q => absurd rfl q⟩⟩)
                · rw [← ea i hi]; exact w i hi
                · rw [← eb i hi]; exact w2 i hi
                · rw [eb i hi]; exact (v i hi).2
              · have k5' : P 5 S := k5 (fun v => w (fun i hi => by rw [ea i hi]; exact (v i hi).1))
                refine sp_areBelow (d := 197) (fr := 1) (st := 2) (N := n) hI.rf (by omega) (fun i => by omega) (by omega) (by omega) (by omega) (fun w2 => ⟨fun _ => k5', fun q => absurd rfl q⟩) (fun w2 => ⟨fun _ => k5', fun q => absurd rfl q⟩)
            by_cases c5 : ∀ i, i < n → (¬ S.2.1 119 (60 * t + 2 * i) < 0 ∧ S.2.1 119 (60 * t + 2 * i) < lN (gpN g.n)) ∧ (¬ S.2.1 119 (60 * t + 2 * i + 1) < 0 ∧ S.2.1 119 (60 * t + 2 * i + 1) < lN 7)
            · have val : ∀ i, i < n → (S.2.1 119 (60 * t + 2 * i)).toInt.toNat < gpN g.n ∧ S.2.1 119 (60 * t + 2 * i) = lN (S.2.1 119 (60 * t + 2 * i)).toInt.toNat ∧ (S.2.1 119 (60 * t + 2 * i + 1)).toInt.toNat ≤ 6 ∧ S.2.1 119 (60 * t + 2 * i + 1) = lN (S.2.1 119 (60 * t + 2 * i + 1)).toInt.toNat := fun i hi => by
                obtain ⟨⟨w1, w2⟩, w3, w4⟩ := c5 i hi
                obtain ⟨u, u1, u2⟩ := lN_of (by omega) w1 w2
                obtain ⟨v, v1, v2⟩ := lN_of (by omega) w3 w4
                have eu : (lN u).toInt.toNat = u := by rw [lN_toInt (by omega)]; omega
                have ev : (lN v).toInt.toNat = v := by rw [lN_toInt (by omega)]; omega
                rw [u2, v2, eu, ev]
                exact ⟨u1, rfl, by omega, rfl⟩
              refine Or.inr ⟨t, n, k, fun i => (S.2.1 119 (60 * t + 2 * i)).toInt.toNat, fun i => (S.2.1 119 (60 * t + 2 * i + 1)).toInt.toNat, by omega, hn20, hk, rfl, rfl, rfl, fun i hi => ⟨(val i hi).1, (val i hi).2.2.1⟩, fun i hi => ⟨?_, ?_⟩, fun i hi => ⟨(val i hi).2.1, (val i hi).2.2.2⟩, fun P hP => below P (fun _ => hP) (fun w => absurd c5 w), fun S' P rr eL e8 e0 hP => startM rr ?_⟩
              · rw [cv _ (by omega)]; exact (val i hi).2.1
              · rw [cv _ (by omega), show 60 * t + (2 * i + 1) = 60 * t + 2 * i + 1 by omega]; exact (val i hi).2.2.2
              · rw [e8, h5]
                exact ⟨fun _ => ⟨fun _ => loop S' P rr eL e0 (fun _ => hP) (fun w => absurd c5 w), fun q => absurd (nI_le c4 (by omega)) q⟩, fun q => absurd q z2⟩
            · refine Or.inl ⟨5, by decide, by decide, fun P hP => below P (fun w => absurd w c5) (fun _ => hP), fun s P hP => startM (by rw [uI_R]; exact hI.rf) ?_⟩
              rw [uI_ne _ _ _ (by omega), h5]
              exact ⟨fun _ => ⟨fun _ => loop _ P (by rw [uI_R]; exact hI.rf) (by rw [uI_L]) (by rw [uI_ne _ _ _ (by omega)]) (fun w => absurd w c5) (fun _ => hP), fun q => absurd (nI_le c4 (by omega)) q⟩, fun q => absurd q z2⟩
          · refine Or.inl ⟨3, by decide, by decide, fun P hP => start ⟨fun _ => ⟨fun q => absurd ?_ c4, fun _ => hP⟩, fun q => absurd q z1⟩, fun s P hP => startM (by rw [uI_R]; exact hI.rf) ?_⟩
            · rw [h4] at q
              exact (nI_leI (by omega) (by omega)).mp q
            · rw [uI_ne _ _ _ (by omega), h5]
              exact ⟨fun _ => ⟨fun q => absurd ((nI_leI (by omega) (by omega)).mp q) c4, fun _ => hP⟩, fun q => absurd q z2⟩
      · refine Or.inl ⟨1, by decide, by decide, fun P hP => e_Mg_seenProblem rfl (sp_isTray (d := 196) ?_), fun s P hP => e_Md_wrongSeen rfl (sp_mIsTray (d := 197) ?_)⟩
        · rw [c1']
          refine ⟨fun q => absurd q (by decide), fun _ => sp_isWithin (d := 197) ?_⟩
          rw [c2']
          refine ⟨fun q => absurd q (by decide), fun _ => sp_isWithin (d := 197) ?_⟩
          rw [if_neg c3]
          exact ⟨fun q => absurd rfl q, fun _ => hP⟩
        · rw [c1']
          exact ⟨fun q => absurd q (by decide), fun _ => sp_isFrom (d := 197) (y := 0) (z := 20) (by decide) (by decide) (fun _ => ⟨fun q => absurd q (by decide), fun _ => sp_isFrom (d := 197) (y := 0) (z := 4) (by decide) (by decide) (fun w => absurd w c3) (fun _ => ⟨fun q => absurd rfl q, fun _ => hP⟩)⟩) (fun w => absurd c2 w)⟩
    · refine Or.inl ⟨1, by decide, by decide, fun P hP => e_Mg_seenProblem rfl (sp_isTray (d := 196) ?_), fun s P hP => e_Md_wrongSeen rfl (sp_mIsTray (d := 197) ?_)⟩
      · rw [c1']
        refine ⟨fun q => absurd q (by decide), fun _ => sp_isWithin (d := 197) ?_⟩
        rw [if_neg c2]
        exact ⟨fun _ => hP, fun q => absurd rfl q⟩
      · rw [c1']
        exact ⟨fun q => absurd q (by decide), fun _ => sp_isFrom (d := 197) (y := 0) (z := 20) (by decide) (by decide) (fun w => absurd w c2) (fun _ => ⟨fun _ => hP, fun q => absurd rfl q⟩)⟩
  · refine Or.inl ⟨1, by decide, by decide, fun P hP => e_Mg_seenProblem rfl (sp_isTray (d := 196) ?_), fun s P hP => e_Md_wrongSeen rfl (sp_mIsTray (d := 197) ?_)⟩
    · rw [if_neg c1]
      exact ⟨fun _ => hP, fun q => absurd rfl q⟩
    · rw [if_neg c1]
      exact ⟨fun _ => hP, fun q => absurd rfl q⟩
