/-! the calls that ask -/
theorem surj_of {n : Nat} : ∀ (std : Nat → Nat), (∀ p, p < n → std p < n) → (∀ p q, p < n → q < n → std p = std q → p = q) → ∀ d, d < n → ∃ p, p < n ∧ std p = d := by
  induction n with
  | zero => exact fun _ _ _ d h => absurd h (Nat.not_lt_zero d)
  | succ n ih =>
    intro std h1 h2 d hd
    by_cases x : std n = n
    · by_cases e : d = n
      · exact ⟨n, by omega, by rw [e]; exact x⟩
      · obtain ⟨p, p1, p2⟩ := ih std (fun p hp => by
          have := h1 p (by omega)
          have : std p ≠ n := fun z => by
            have := h2 p n (by omega) (by omega) (z.trans x.symm)
            omega
          omega) (fun p q hp hq => h2 p q (by omega) (by omega)) d (by omega)
        exact ⟨p, by omega, p2⟩
    · have hx := h1 n (by omega)
      have key := ih (fun p => if std p = n then std n else std p) (fun p hp => by
          have := h1 p (by omega)
          show (if std p = n then std n else std p) < n
          split <;> omega) (fun p q hp hq => by
          show (if std p = n then std n else std p) = (if std q = n then std n else std q) → p = q
          have a1 := h2 p q (by omega) (by omega)
          have a2 := h2 p n (by omega) (by omega)
          have a3 := h2 n q (by omega) (by omega)
          split <;> split <;> intro z
          · exact a1 (by omega)
          · have := a3 z
            omega
          · have := a2 z
            omega
          · exact a1 z)
      by_cases e : d = n
      · obtain ⟨p, p1, p2⟩ := key (std n) (by omega)
        have p2 : (if std p = n then std n else std p) = std n := p2
        by_cases c : std p = n
        · exact ⟨p, by omega, by rw [e]; exact c⟩
        · rw [if_neg c] at p2
          have := h2 p n (by omega) (by omega) p2
          omega
      · obtain ⟨p, p1, p2⟩ := key d (by omega)
        have p2 : (if std p = n then std n else std p) = d := p2
        by_cases c : std p = n
        · rw [if_pos c] at p2
          exact ⟨n, by omega, p2⟩
        · rw [if_neg c] at p2
          exact ⟨p, by omega, p2⟩
theorem std_inv {g : GM} (hb : bdG g) {d : Nat} (hd : d < g.n) : ∃ p, p < g.n ∧ g.std p = d := surj_of g.std hb.2.2.2.2.2.2.2.1 hb.2.2.2.2.2.2.2.2 d hd
theorem Inv.scr {S S1 S2 : aw_S} {a b : Nat} {g : GM} {x : Int32} (h : Inv S) (N : NowI S a b g) (F1 : FrI (fun k _ => k = a + 14 ∨ (86 ≤ k ∧ k ≤ 97) ∨ (99 ≤ k ∧ k ≤ 113)) S S1) (F2 : FrI (fun k j => (k = 114 ∧ j ≠ 2 ∧ j ≠ 10 ∧ j ≠ 16 ∧ j ≠ 17 ∧ j ≠ 50 ∧ j ≠ 51) ∨ (k = 115 ∧ 2208 ≤ j) ∨ (121 ≤ k ∧ k ≤ 141)) (aw_uI S1 0 3 x) S2) : Inv (aw_uI S2 114 2 x) := by
  have hab := N.ab
  obtain ⟨n1, n2, n3, n4, n5, n6, n7, n8, n9, n10⟩ := id N
  have c1 : ∀ j, S1.1 115 j = S.1 115 j := fun j => F1.1 115 j (by omega)
  have c2 : ∀ j, j < 2208 → S2.1 115 j = S.1 115 j := fun j hj => by rw [F2.1 115 j (by omega), uI_ne _ _ _ (by omega), c1]
  refine h.fin N (F1.mono (fun k j q => by unfold YI; omega)) (F2.mono (fun k j q => by unfold YI; omega)) n4 rfl n5 (n6.fr (fun k q1 q2 => F1.cell (fun j => by omega))) (n7.fr n4.1 n4.2.2.2.2.1 (fun j hj => c2 _ (by omega))) ?_
  rw [c2 4 (by omega), F1.1 a 3 (by omega), F1.1 a 4 (by omega)]
  exact n8
def fld (x w : Nat) : Nat := if w = 0 then x % 8 else if w = 1 then x / 8 % 2 else if w = 2 then x / 16 % 8 else x / 128 % 8
section AS
variable {l : Launch} {d : Nat} {sh : aw_SH} {S : aw_S} {g : GM}
theorem sp_Md_passOf {P : Int32 → aw_S → Prop} {k w : Nat} (hS : MdS sh S.2.2) (hb : bdG g) (H : MdG S.1 0 g) (hk : k < g.m) (hw : w < 4) (h : P (nI (fld (g.f k) w)) S) : Sp l m_Md_passOf (d + 1 + 1) 0 0 [.ref 114, .int (nI k), .int (nI w)] sh S (gI sh P) := by
  have hm : g.m ≤ 40 := hb.2.2.2.2.1
  obtain ⟨y0, y1, y2, y3, y4, y5, y6⟩ := id H
  refine e_Md_passOf hS.1 ⟨115, hS.2.1, e_Md_plaitRow ⟨3864, hS.2.2, ?_⟩⟩
  rw [nRow, nI_add, nI_clamp (by omega)]
  refine ⟨vp_in_nI (by omega) (by omega), ?_⟩
  have e : S.1 115 (24 + 4 * k + w) = nI (fld (g.f k) w) := by
    obtain ⟨q0, q1, q2, q3⟩ := y4 k hk
    rw [show 0 + 24 + 4 * k = 24 + 4 * k by omega] at q0 q1 q2 q3
    unfold fld
    have : w = 0 ∨ w = 1 ∨ w = 2 ∨ w = 3 := by omega
    rcases this with rfl | rfl | rfl | rfl
    · exact q0
    · exact q1
    · exact q2
    · exact q3
  rw [e]
  exact h
theorem sp_Md_placeOf {P : Int32 → aw_S → Prop} {p : Nat} (hS : MdS sh S.2.2) (hb : bdG g) (H : MdG S.1 0 g) (hp : p < g.n) (h : P (nI p) S) : Sp l m_Md_placeOf (d + 1) 0 0 [.ref 114, .int (nI (g.std p))] sh S (gI sh P) := by
  have hn : g.n ≤ 7 := hb.1
  have hst := hb.2.2.2.2.2.2.2.1
  obtain ⟨y0, y1, y2, y3, y4, y5, y6⟩ := id H
  refine e_Md_placeOf hS.1 ?_
  have key : ∀ j k, k + j = p → AW l m_Md_placeOf (d + 1) 0 0 (gI sh P) 0 0 2 [.ref 114, .int (nI (g.std p)), .int (nI k)] [] sh S := by
    intro j
    induction j with
    | zero =>
      intro k hk
      have hk : k = p := hk
      subst hk
      have e := y6 k hp
      rw [Nat.zero_add] at e
      refine s_Md_placeOf_2 hS.1 ⟨115, hS.2.1, 3864, hS.2.2, ?_⟩
      rw [nB17, nI_clamp (by omega), e]
      exact ⟨vp_in_nI (by omega) (by omega), fun _ => h, fun q => absurd rfl q⟩
    | succ j ih =>
      intro k hk
      have e := y6 k (by omega)
      rw [Nat.zero_add] at e
      refine s_Md_placeOf_2 hS.1 ⟨115, hS.2.1, 3864, hS.2.2, ?_⟩
      rw [nB17, nI_clamp (by omega), e, nI_1]
      refine ⟨vp_in_nI (by omega) (by omega), fun q => ?_, fun _ => ih (k + 1) (by omega)⟩
      have s1 := hst k (by omega)
      have s2 := hst p hp
      have := hb.2.2.2.2.2.2.2.2 k p (by omega) hp ((nI_inj (by omega) (by omega)).mp q)
      omega
  exact key p 0 (by omega)
def tmW (f : Nat → Nat) (w who : Nat) : Nat → Nat
  | 0 => 0
  | k + 1 => tmW f w who k + if fld (f k) w = who then 1 else 0
theorem tmW_s (f : Nat → Nat) (w who k : Nat) : tmW f w who (k + 1) = tmW f w who k + if fld (f k) w = who then 1 else 0 := rfl
theorem tmW_le (f : Nat → Nat) (w who m : Nat) : tmW f w who m ≤ m := by
  induction m with
  | zero => exact Nat.le_refl _
  | succ m ih =>
    unfold tmW
    split <;> omega
theorem fld_lt (x w : Nat) : fld x w < 8 := by
  unfold fld
  split
  · omega
  · split
    · omega
    · split <;> omega
theorem sp_Md_wentSo {P : Int32 → aw_S → Prop} {who w : Nat} (hS : MdS sh S.2.2) (hb : bdG g) (H : MdG S.1 0 g) (hw : w < 4) (ho : who < 8) (h : P (nI (tmW g.f w who g.m)) S) : Sp l m_Md_wentSo (d + 1 + 1 + 1) 0 0 [.ref 114, .int (nI who), .int (nI w)] sh S (gI sh P) := by
  have hm : g.m ≤ 40 := hb.2.2.2.2.1
  have y3 := H.2.2.2.1
  rw [Nat.zero_add] at y3
  refine e_Md_wentSo hS.1 ?_
  have key : ∀ j k, k + j = g.m → AW l m_Md_wentSo (d + 1 + 1 + 1) 0 0 (gI sh P) 0 0 5 [.ref 114, .int (nI who), .int (nI w), .int (nI (tmW g.f w who k)), .int (nI k)] [] sh S := by
    intro j
    induction j with
    | zero =>
      intro k hk
      have hk : k = g.m := hk
      subst hk
      refine s_Md_wentSo_5 hS.1 ⟨115, hS.2.1, 3864, hS.2.2, vp_in_nI (n := 3) (by omega) (by omega), ?_⟩
      show ((S.1 115 3 ≤ _ → _) ∧ (¬ S.1 115 3 ≤ _ → _))
      rw [y3]
      exact ⟨fun _ => h, fun q => absurd (nI_le (Nat.le_refl _) (by omega)) q⟩
    | succ j ih =>
      intro k hk
      have e := ih (k + 1) (by omega)
      refine s_Md_wentSo_5 hS.1 ⟨115, hS.2.1, 3864, hS.2.2, vp_in_nI (n := 3) (by omega) (by omega), ?_⟩
      show ((S.1 115 3 ≤ _ → _) ∧ (¬ S.1 115 3 ≤ _ → _))
      rw [y3]
      refine ⟨fun q => absurd q (nI_ge (by omega) (by omega)), fun _ => sp_Md_passOf hS hb H (by omega) hw ?_⟩
      rw [nA0, nA1, nI_1]
      rw [tmW_s] at e
      have := fld_lt (g.f k) w
      refine ⟨fun q => ?_, fun q => ?_⟩
      · rw [if_neg (fun z => q (by rw [z]))] at e
        exact e
      · rw [if_pos ((nI_inj (by omega) (by omega)).mp q)] at e
        exact e
  exact key g.m 0 (by omega)
theorem sp_Pl_timesOver {P : Int32 → aw_S → Prop} {a r cap m who : Nat} {f : Nat → Nat} (H : PlA sh S a r cap m f) (ho : who < 8) (h : P (nI (tmW f 2 who m)) S) : Sp l m_Pl_timesOver (d + 1 + 1) 0 0 [.ref a, .int (nI who)] sh S (gI sh P) := by
  obtain ⟨sa, hr, sr, hm, hc, hcap, hf⟩ := id H
  refine e_Pl_timesOver sa ?_
  have key : ∀ j k, k + j = m → AW l m_Pl_timesOver (d + 1 + 1) 0 0 (gI sh P) 0 0 4 [.ref a, .int (nI who), .int (nI (tmW f 2 who k)), .int (nI k)] [] sh S := by
    intro j
    induction j with
    | zero =>
      intro k hk
      have hk : k = m := hk
      subst hk
      exact s_Pl_timesOver_4 sa ⟨fun _ => h, fun q => absurd (by rw [hm]; exact nI_le (Nat.le_refl _) (by omega)) q⟩
    | succ j ih =>
      intro k hk
      have e := ih (k + 1) (by omega)
      rw [tmW_s, show fld (f k) 2 = f k / 16 % 8 from rfl] at e
      refine s_Pl_timesOver_4 sa ⟨fun q => absurd (by rw [hm] at q; exact q) (nI_ge (by omega) (by omega)), fun _ => sp_Pl_upperAt H (by omega) ⟨fun q => ?_, fun q => ?_⟩⟩
      · rw [if_neg (fun z => q (by rw [z])), Nat.add_zero] at e
        rw [nI_1]
        exact e
      · rw [if_pos ((nI_inj (by omega) (by omega)).mp q)] at e
        rw [nI_1, nI_1]
        exact e
  exact key m 0 (by omega)
/-- what shows in a gap -/
def shN (g : GM) (gap : Nat) : Nat := match lt_in g.f gap g.m with
  | none => 6
  | some k => g.col (g.f k / 16 % 8)
theorem sh_le {g : GM} (hb : bdG g) (gap : Nat) : shN g gap ≤ 6 := by
  unfold shN
  split
  · exact Nat.le_refl _
  · next k hk =>
    have := hb.2.2.2.2.2.2.1 _ (hb.2.2.2.2.2.1 k (lt_lt _ _ hk).1).2.2.1
    omega
theorem sp_colour {P : Int32 → aw_S → Prop} {a gap : Nat} (hS : GrS sh S.2.2 a) (hb : bdG g) (H : GrG S.1 a g) (hg : gap < 8) (h : P (nI (shN g gap)) S) : Sp l m_Gr_colourIn (d + 1 + 1) 0 0 [.ref a, .int (nI gap), .int (nI g.m)] sh S (gI sh P) := by
  refine sp_Gr_colourIn hS hb H hg (Nat.le_refl _) ?_
  unfold shN at h
  cases hu : lt_in g.f gap g.m with
  | none =>
    rw [hu] at h
    exact h
  | some k =>
    rw [hu] at h
    exact h
theorem sp_Md_showsOf {P : Int32 → aw_S → Prop} {gap : Nat} (hS : MdS sh S.2.2) (hb : bdG g) (H : MdG S.1 0 g) (hg : gap < 8) (h : P (nI (shN g gap)) S) : Sp l m_Md_showsOf (d + 1 + 1 + 1) 0 0 [.ref 114, .int (nI gap)] sh S (gI sh P) := by
  have hn : g.n ≤ 7 := hb.1
  have hm : g.m ≤ 40 := hb.2.2.2.2.1
  refine e_Md_showsOf hS.1 (sp_Md_latestIn (s := 0) hS (by omega) hb H hg ?_)
  unfold shN at h
  cases hu : lt_in g.f gap g.m with
  | none =>
    rw [hu] at h
    exact ⟨fun q => absurd rfl q, fun _ => h⟩
  | some k =>
    rw [hu] at h
    have hk := (lt_lt _ _ hu).1
    have hw := (hb.2.2.2.2.2.1 k hk).2.2.1
    refine ⟨fun _ => ⟨115, hS.2.1, sp_Md_passOf (w := 2) hS hb H hk (by omega) ⟨3864, hS.2.2, ?_⟩⟩, fun q => absurd q (nI_ne_m1 (show k < 2 ^ 31 by omega))⟩
    have e := H.2.2.2.2.2.1 _ hw
    rw [Nat.zero_add] at e
    show vp_in ((10 : Int32) + nI (g.f k / 16 % 8)) 3864 ∧ P (S.1 115 ((10 : Int32) + nI (g.f k / 16 % 8)).toNatClampNeg) S
    rw [nB10, nI_clamp (by omega), e]
    exact ⟨vp_in_nI (by omega) (by omega), h⟩
end AS
theorem NowI.m3 {S : aw_S} {a b : Nat} {g : GM} (N : NowI S a b g) (y : Int32) : MdG (aw_uI S 0 3 y).1 0 g := N.2.2.2.2.2.2.1.fr N.2.2.2.1.1 N.2.2.2.1.2.2.2.2.1 (fun j _ => by rw [uI_ne _ _ _ (by omega)])
theorem ok_place (l : Launch) : Ok_place l 0 114 sh0 Inv := by
  intro S hI x
  obtain ⟨a, b, g, N⟩ := hI.now
  have hS := N.S hI.rf
  have hM := MdS.mk0 hI.rf
  obtain ⟨n1, n2, n3, n4, n5, n6, n7, n8, n9, n10⟩ := id N
  have hn : g.n ≤ 7 := n4.1
  refine e_Mg_place rfl (sp_Mg_isPlace (d := 197) n1 hS.sa hn n6.1 (fun hx => ⟨fun q => absurd q (by decide), fun _ => ⟨a, n1, hS.sa, a + 5, hS.r9, 7, hS.s5, ?_⟩⟩) (fun hx => ⟨fun _ => e_Mg_fail rfl (e_Md_place rfl (sp_Md_isDancer (d := 198) hM hn (N.m3 _).1 (fun z => absurd z hx) (fun _ => ⟨fun _ => e_Md_refuse rfl ⟨rfl, hI.st rfl⟩, fun q => absurd rfl q⟩))), fun q => absurd rfl q⟩))
  obtain ⟨p, hp, rfl⟩ := hx
  refine ⟨vp_in_nI (by omega) (by omega), e_Mg_give rfl (e_Md_place rfl (sp_Md_isDancer (d := 198) hM hn (N.m3 _).1 (fun _ => ⟨fun q => absurd q (by decide), fun _ => ⟨115, hM.2.1, 3864, rfl, ?_⟩⟩) (fun z => absurd ⟨p, hp, rfl⟩ z)))⟩
  have e := (N.m3 0).2.2.2.2.2.2 p hp
  rw [Nat.zero_add] at e
  rw [nB17, nI_clamp (by omega), nI_clamp (by omega), e, (n6.2.2.2.2.2.2.1 p hp).1]
  exact ⟨vp_in_nI (by omega) (by omega), e_Md_gives rfl ⟨rfl, hI.st rfl⟩⟩
theorem ok_shows (l : Launch) : Ok_shows l 0 114 sh0 Inv := by
  intro S hI x
  obtain ⟨a, b, g, N⟩ := hI.now
  have hS := N.S hI.rf
  have hM := MdS.mk0 hI.rf
  obtain ⟨n1, n2, n3, n4, n5, n6, n7, n8, n9, n10⟩ := id N
  have hn : g.n ≤ 7 := n4.1
  have hgp := gp_le g.n
  refine e_Mg_shows rfl (sp_Mg_isGap (d := 197) n1 hS.sa hn n6.1 (fun hx => ⟨fun _ => ⟨a, n1, hS.sa, a + 6, hS.r10, hS.s6, ?_⟩, fun q => absurd q (by decide)⟩) (fun hx => ⟨fun q => absurd rfl q, fun _ => e_Mg_fail rfl (e_Md_shows rfl (sp_Md_isGap (d := 197) hM hn (N.m3 _).1 (fun z => absurd z hx) (fun _ => ⟨fun q => absurd rfl q, fun _ => e_Md_refuse rfl ⟨rfl, hI.st rfl⟩⟩)))⟩))
  obtain ⟨gap, hg, rfl⟩ := hx
  rw [n6.2.2.2.1]
  have h6 := sh_le n4 gap
  refine sp_colour (d := 197) hS n4 n6 (by omega) ⟨fun q => e_Mg_give rfl ?_, fun q => e_Mg_fail rfl ?_⟩
  · refine e_Md_shows rfl (sp_Md_isGap (d := 197) hM hn (N.m3 _).1 (fun _ => ⟨fun _ => sp_Md_showsOf (d := 196) hM n4 (N.m3 _) (by omega) ⟨fun _ => sp_Md_showsOf (d := 196) hM n4 (N.m3 _) (by omega) (e_Md_gives rfl ⟨rfl, hI.st rfl⟩), fun z => absurd z q⟩, fun q => absurd q (by decide)⟩) (fun z => absurd ⟨gap, hg, rfl⟩ z))
  · refine e_Md_shows rfl (sp_Md_isGap (d := 197) hM hn (N.m3 _).1 (fun _ => ⟨fun _ => sp_Md_showsOf (d := 196) hM n4 (N.m3 _) (by omega) ⟨fun z => absurd q z, fun _ => e_Md_refuse rfl ⟨rfl, hI.st rfl⟩⟩, fun q => absurd q (by decide)⟩) (fun z => absurd ⟨gap, hg, rfl⟩ z))
theorem tm_in_W (f : Nat → Nat) (gap m : Nat) : tm_in f gap m = tmW f 0 gap m := by
  induction m with
  | zero => rfl
  | succ m ih =>
    unfold tm_in tmW fld
    rw [ih]
    rfl
theorem ok_passes (l : Launch) : Ok_passes l 0 114 sh0 Inv := by
  intro S hI x
  obtain ⟨a, b, g, N⟩ := hI.now
  have hS := N.S hI.rf
  have hM := MdS.mk0 hI.rf
  obtain ⟨n1, n2, n3, n4, n5, n6, n7, n8, n9, n10⟩ := id N
  have hn : g.n ≤ 7 := n4.1
  have hm : g.m ≤ 40 := n4.2.2.2.2.1
  have hgp := gp_le g.n
  refine e_Mg_passes rfl (sp_Mg_isGap (d := 197) n1 hS.sa hn n6.1 (fun hx => ⟨fun q => absurd q (by decide), fun _ => ⟨a, n1, hS.sa, a + 6, hS.r10, hS.s6, ?_⟩⟩) (fun hx => ⟨fun _ => e_Mg_fail rfl (e_Md_passes rfl (sp_Md_isGap (d := 197) hM hn (N.m3 _).1 (fun z => absurd z hx) (fun _ => ⟨fun q => absurd rfl q, fun _ => e_Md_refuse rfl ⟨rfl, hI.st rfl⟩⟩))), fun q => absurd rfl q⟩))
  obtain ⟨gap, hg, rfl⟩ := hx
  refine sp_Pl_timesIn (d := 197) (n6.pl hS n4) (by omega) (e_Mg_give rfl (e_Md_passes rfl (sp_Md_isGap (d := 197) hM hn (N.m3 _).1 (fun _ => ⟨fun _ => ?_, fun q => absurd q (by decide)⟩) (fun z => absurd ⟨gap, hg, rfl⟩ z))))
  rw [tm_in_W]
  have y3 := (N.m3 0).2.2.2.1
  rw [Nat.zero_add] at y3
  have key : ∀ j k, k + j = g.m → AW l m_Md_passes 200 0 0 (gI sh0 (fun y S2 => nI (tmW g.f 0 gap g.m) = y ∧ Inv S2)) 0 0 18 [.ref 114, .int (nI gap), .int (nI (tmW g.f 0 gap k)), .int (nI k)] [] sh0 (aw_uI S 0 3 0) := by
    intro j
    induction j with
    | zero =>
      intro k hk
      have hk : k = g.m := hk
      subst hk
      refine s_Md_passes_18 rfl ⟨115, hM.2.1, 3864, rfl, vp_in_nI (n := 3) (by omega) (by omega), ?_⟩
      show (((aw_uI S 0 3 0).1 115 3 ≤ _ → _) ∧ (¬ (aw_uI S 0 3 0).1 115 3 ≤ _ → _))
      rw [y3]
      exact ⟨fun _ => e_Md_gives rfl ⟨rfl, hI.st rfl⟩, fun q => absurd (nI_le (Nat.le_refl _) (by omega)) q⟩
    | succ j ih =>
      intro k hk
      have e := ih (k + 1) (by omega)
      refine s_Md_passes_18 rfl ⟨115, hM.2.1, 3864, rfl, vp_in_nI (n := 3) (by omega) (by omega), ?_⟩
      show (((aw_uI S 0 3 0).1 115 3 ≤ _ → _) ∧ (¬ (aw_uI S 0 3 0).1 115 3 ≤ _ → _))
      rw [y3]
      refine ⟨fun q => absurd q (nI_ge (by omega) (by omega)), fun _ => sp_Md_passOf (w := 0) (d := 197) hM n4 (N.m3 _) (by omega) (by omega) ?_⟩
      rw [nA0, nA1, nI_1]
      rw [tmW_s] at e
      have := fld_lt (g.f k) 0
      refine ⟨fun q => ?_, fun q => ?_⟩
      · rw [if_neg (fun z => q (by rw [z]))] at e
        exact e
      · rw [if_pos ((nI_inj (by omega) (by omega)).mp q)] at e
        exact e
  exact key g.m 0 (by omega)
