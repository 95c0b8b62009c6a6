/-! the class's PASSES as they are asked for -/
set_option maxRecDepth 100000 in
theorem pk_w : ∀ gap, gap < 8 → ∀ over, over < 2 → ∀ u, u < 8 → ∀ lo, lo < 8 → (((nI gap ||| (nI over <<< ((3 : Int32) &&& 31))) ||| (nI u <<< ((4 : Int32) &&& 31))) ||| (nI lo <<< ((7 : Int32) &&& 31))) = nI (gap + 8 * over + 16 * u + 128 * lo) := by decide +kernel
theorem pkd {gap over u lo : Nat} (h1 : gap < 8) (h2 : over < 2) (h3 : u < 8) (h4 : lo < 8) : (gap + 8 * over + 16 * u + 128 * lo) % 8 = gap ∧ (gap + 8 * over + 16 * u + 128 * lo) / 8 % 2 = over ∧ (gap + 8 * over + 16 * u + 128 * lo) / 16 % 8 = u ∧ (gap + 8 * over + 16 * u + 128 * lo) / 128 % 8 = lo ∧ gap + 8 * over + 16 * u + 128 * lo < 1024 := by
  refine ⟨by omega, by omega, by omega, by omega, by omega⟩
theorem np_ok {g : GM} {gap over : Nat} (hb : bdG g) (hg : gap < gpN g.n) (ho : over < 2) : okP g.n (npN g gap over) ∧ npN g gap over % 8 = gap ∧ npN g gap over / 8 % 2 = over := by
  have hn : g.n ≤ 7 := hb.1
  have h2 := gp_2 hg
  have h3 := gp_le g.n
  have hx := nx_lt (n := g.n) (p := gap) (by omega)
  have s1 := hb.2.2.2.2.2.2.2.1 gap (by omega)
  have s2 := hb.2.2.2.2.2.2.2.1 _ hx
  have sne : g.std gap ≠ g.std (nx g.n gap) := fun z => nx_ne h2 (show gap < g.n by omega) (hb.2.2.2.2.2.2.2.2 _ _ (by omega) hx z).symm
  unfold npN okP
  by_cases e : over = 1
  · rw [if_pos e, if_pos e]
    obtain ⟨k1, k2, k3, k4, k5⟩ := pkd (show gap < 8 by omega) ho (show g.std gap < 8 by omega) (show g.std (nx g.n gap) < 8 by omega)
    rw [k1, k2, k3, k4]
    exact ⟨⟨k5, hg, s1, s2, sne⟩, rfl, rfl⟩
  · rw [if_neg e, if_neg e]
    obtain ⟨k1, k2, k3, k4, k5⟩ := pkd (show gap < 8 by omega) ho (show g.std (nx g.n gap) < 8 by omega) (show g.std gap < 8 by omega)
    rw [k1, k2, k3, k4]
    exact ⟨⟨k5, hg, s2, s1, sne.symm⟩, rfl, rfl⟩
section MK
variable {l : Launch} {d : Nat} {sh : aw_SH} {S : aw_S} {a : Nat} {g : GM}
theorem sp_undoneBy {P : Int32 → aw_S → Prop} {gap over : Nat} (hS : GrS sh S.2.2 a) (hb : bdG g) (H : GrG S.1 a g) (hg : gap < gpN g.n) (ho : over < 2) (h : P (oI (ubG g gap over)) S) : Sp l m_Pl_undoneBy (d + 1) 0 0 [.ref (a + 6), .int (nI gap), .int (nI over), .int (nI (tmN g.n gap))] sh S (gI sh P) := by
  have hn : g.n ≤ 7 := hb.1
  have h3 := gp_le g.n
  obtain ⟨t1, t2⟩ := tm_b g.n (by omega) gap hg
  refine sp_Pl_undoneBy (H.pl hS hb) (by omega) ho (tch := tchN g.n gap) (fun k hk => ?_) h
  have hk' := (hb.2.2.2.2.2.1 k hk).2.1
  rw [n_bit0 (by omega) (by omega)]
  exact t2 _ hk'
theorem ub_lt {f : Nat → Nat} {t : Nat → Bool} {gap over m k : Nat} (h : ub f t gap over m = some k) : k < m ∧ f k % 8 = gap ∧ f k / 8 % 2 ≠ over := by
  induction m with
  | zero => exact absurd h (by unfold ub; exact fun z => by cases z)
  | succ m ih =>
    unfold ub at h
    split at h
    · split at h
      · next q =>
        have e : m = k := Option.some.inj h
        subst e
        exact ⟨Nat.lt_succ_self _, q.1, q.2⟩
      · cases h
    · obtain ⟨h1, h2⟩ := ih h
      exact ⟨Nat.lt_succ_of_lt h1, h2⟩
theorem sp_Gr_makePass {P : Int32 → aw_S → Prop} {gap over : Nat} (hS : GrS sh S.2.2 a) (hb : bdG g) (H : GrG S.1 a g) (hg : gap < gpN g.n) (ho : over < 2)
    (h1 : ∀ k S', ubG g gap over = some k → k < g.m → FrI (GX a) S S' → GrG S'.1 a (rmG g k) → S'.1 a 3 = S.1 a 3 → S'.1 a 4 = S.1 a 4 + 1 → P (nI (1 + (k * 1024 + g.f k))) S')
    (h2 : ∀ S', ubG g gap over = none → canN g gap → FrI (GX a) S S' → GrG S'.1 a (inG g g.m (npN g gap over)) → S'.1 a 3 = S.1 a 3 + 1 → S'.1 a 4 = S.1 a 4 → P 0 S')
    (h3 : ubG g gap over = none → ¬ canN g gap → P (-1) S) : Sp l m_Gr_makePass (d + 1 + 1 + 1 + 1) 0 0 [.ref a, .int (nI (2 * gap + over))] sh S (gI sh P) := by
  have hn : g.n ≤ 7 := hb.1
  have g2 := gp_2 hg
  have g3 := gp_le g.n
  have hm : g.m ≤ 40 := hb.2.2.2.2.1
  have hx := nx_lt (n := g.n) (p := gap) (by omega)
  have H5 := H.2.2.2.2.2.2.1
  have hst := hb.2.2.2.2.2.2.2.1
  have e1 : nI (2 * gap + over) >>> ((1 : Int32) &&& 31) = nI gap := by
    rw [n_shr (by omega) _ 1 (by decide), show (2 * gap + over) / 2 ^ 1 = gap by omega]
  have e2 : nI (2 * gap + over) &&& 1 = nI over := by
    rw [n_and1 (by omega), show (2 * gap + over) % 2 = over by omega]
  refine e_Gr_makePass hS.sa ⟨a + 6, hS.r10, ?_⟩
  rw [e1, e2]
  refine sp_Gr_touching hS.sa hn hg H.1 ⟨hS.s6, sp_undoneBy hS hb H hg ho ⟨fun q => ?_, fun q => ?_⟩⟩
  · have e0 : ubG g gap over = none := by
      cases hu : ubG g gap over with
      | none => rfl
      | some k =>
        rw [hu] at q
        have := (ub_lt hu).1
        exact absurd q (nI_ne_m1 (by omega))
    refine sp_Gr_canAdd hS hb H hg (fun c => ⟨fun _ => ?_, fun q => absurd q (by decide)⟩) (fun c => ⟨fun q => absurd rfl q, fun _ => h3 e0 c⟩)
    refine ⟨a + 5, hS.r9, 7, hS.s5, vp_in_nI (by omega) (by omega), sp_Gr_nextPlace hS.sa hn (by omega) H.1 ⟨vp_in_nI (by omega) (by omega), ?_⟩⟩
    rw [nI_clamp (by omega), nI_clamp (by omega), (H5 gap (by omega)).1, (H5 _ hx).1]
    have s1 := hst gap (by omega)
    have s2 := hst _ hx
    obtain ⟨n1, n2, n3⟩ := np_ok hb hg ho
    have ins : Sp l m_Gr_insertPass (d + 1 + 1 + 1) 0 0 [.ref a, .int (S.1 (a + 6) 1), .int (nI (npN g gap over))] sh S (gV sh (fun S23 => P 0 (aw_uI S23 a 3 (S23.1 a 3 + 1)))) := by
      rw [H.2.2.2.1]
      refine sp_Gr_insertPass hS hb H (Nat.le_refl _) c.1 n1 (fun S' F ea G => h2 _ e0 c (F.uI _ (by unfold GX; omega)) ?_ ?_ ?_)
      · obtain ⟨y0, y1, y2, y3, y4, y5, y6, y7⟩ := G
        refine ⟨?_, ?_, ?_, ?_, ?_, ?_, ?_, ?_⟩
        · rw [uI_at, if_pos rfl, if_neg (by omega)]; exact y0
        · rw [uI_at, if_pos rfl, if_neg (by omega)]; exact y1
        · rw [uI_at, if_pos rfl, if_neg (by omega)]; exact y2
        · rw [uI_ne _ _ _ (by omega)]; exact y3
        · rw [uI_ne _ _ _ (by omega)]; exact y4
        · rw [uI_ne _ _ _ (by omega)]; exact y5
        · rw [uI_ne _ _ _ (by omega), uI_ne _ _ _ (by omega)]; exact y6
        · rw [uI_ne _ _ _ (by omega)]; exact y7
      · rw [uI_at, if_pos rfl, if_pos rfl, ea]
      · rw [uI_at, if_pos rfl, if_neg (by omega), ea]
    refine ⟨fun q1 => ⟨a + 6, hS.r10, hS.s6, e_Pl_packed ?_⟩, fun q1 => ⟨a + 6, hS.r10, hS.s6, e_Pl_packed ?_⟩⟩
    · have eo : ¬ over = 1 := fun z => q1 (by rw [z]; rfl)
      rw [nI_add, pk_sub (by omega), show g.std gap + g.std (nx g.n gap) - g.std (nx g.n gap) = g.std gap by omega, pk_w gap (by omega) over ho _ (by omega) _ (by omega)]
      unfold npN at ins
      rw [if_neg eo, if_neg eo] at ins
      exact ins
    · have eo : over = 1 := (nI_inj (b := 1) (by omega) (by omega)).mp q1
      rw [nI_add, pk_sub (by omega), show g.std gap + g.std (nx g.n gap) - g.std gap = g.std (nx g.n gap) by omega, pk_w gap (by omega) over ho _ (by omega) _ (by omega)]
      unfold npN at ins
      rw [if_pos eo, if_pos eo] at ins
      exact ins
  · obtain ⟨k, hu⟩ : ∃ k, ubG g gap over = some k := by
      cases hu : ubG g gap over with
      | none =>
        rw [hu] at q
        exact absurd rfl q
      | some k => exact ⟨k, rfl⟩
    have hk := (ub_lt hu).1
    rw [hu]
    show ∃ _, _
    have hf := (hb.2.2.2.2.2.1 k hk).1
    refine ⟨a + 6, hS.r10, hS.s6, a + 7, hS.rp, 40, hS.s7, vp_in_nI (show k < 40 by omega) (by omega), sp_Gr_removePass hS hb H hk (fun S' F ea G => ?_)⟩
    have ev : (1 : Int32) + ((oI (some k) <<< ((10 : Int32) &&& 31)) ||| S.1 (a + 7) (oI (some k)).toNatClampNeg) = nI (1 + (k * 1024 + g.f k)) := by
      show (1 : Int32) + ((nI k <<< ((10 : Int32) &&& 31)) ||| S.1 (a + 7) (nI k).toNatClampNeg) = _
      rw [nI_clamp (by omega), H.2.2.2.2.1 k hk, pk_shlN _ 10 (by decide) (by omega)]
      have eor : nI (k * 2 ^ 10) ||| nI (g.f k) = nI (k * 1024 + g.f k) := by
        apply Int32.toBitVec_inj.mp
        show (nI (k * 2 ^ 10)).toBitVec ||| (nI (g.f k)).toBitVec = _
        apply BitVec.eq_of_toNat_eq
        rw [BitVec.toNat_or, pk_tn (by omega), pk_tn (by omega), pk_tn (by omega)]
        have := Nat.two_pow_add_eq_or_of_lt (i := 10) hf k
        rw [Nat.mul_comm k, ← this]
      rw [eor, show (1 : Int32) = nI 1 from rfl, nI_add]
    rw [ev]
    refine h1 k _ hu hk (F.uI _ (by unfold GX; omega)) ?_ ?_ ?_
    · obtain ⟨y0, y1, y2, y3, y4, y5, y6, y7⟩ := G
      refine ⟨?_, ?_, ?_, ?_, ?_, ?_, ?_, ?_⟩
      · rw [uI_at, if_pos rfl, if_neg (by omega)]; exact y0
      · rw [uI_at, if_pos rfl, if_neg (by omega)]; exact y1
      · rw [uI_at, if_pos rfl, if_neg (by omega)]; exact y2
      · rw [uI_ne _ _ _ (by omega)]; exact y3
      · rw [uI_ne _ _ _ (by omega)]; exact y4
      · rw [uI_ne _ _ _ (by omega)]; exact y5
      · rw [uI_ne _ _ _ (by omega), uI_ne _ _ _ (by omega)]; exact y6
      · rw [uI_ne _ _ _ (by omega)]; exact y7
    · rw [uI_at, if_pos rfl, if_neg (by omega), ea]
    · rw [uI_at, if_pos rfl, if_pos rfl, ea]
theorem sp_Gr_doBack {P : Int32 → aw_S → Prop} (hS : GrS sh S.2.2 a) (hb : bdG g) (H : GrG S.1 a g)
    (h1 : ∀ S', 0 < g.m → FrI (GX a) S S' → GrG S'.1 a (rmG g (g.m - 1)) → S'.1 a 3 = S.1 a 3 → S'.1 a 4 = S.1 a 4 + 1 → P 1 S')
    (h0 : g.m = 0 → P 0 S) : Sp l m_Gr_doBack (d + 1 + 1 + 1 + 1) 0 0 [.ref a] sh S (gI sh P) := by
  have hm : g.m ≤ 40 := hb.2.2.2.2.1
  refine e_Gr_doBack hS.sa ⟨a + 6, hS.r10, hS.s6, ?_⟩
  rw [H.2.2.2.1]
  refine ⟨fun q => ?_, fun q => h0 ((nI_inj (b := 0) (by omega) (by omega)).mp q)⟩
  have hp : 0 < g.m := Nat.pos_of_ne_zero (fun z => q (by rw [z]; rfl))
  have e : nI g.m - 1 = nI (g.m - 1) := pk_sub (b := 1) hp
  rw [e]
  refine sp_Gr_removePass hS hb H (by omega) (fun S' F ea G => h1 _ hp (F.uI _ (by unfold GX; omega)) ?_ ?_ ?_)
  · obtain ⟨y0, y1, y2, y3, y4, y5, y6, y7⟩ := G
    refine ⟨?_, ?_, ?_, ?_, ?_, ?_, ?_, ?_⟩
    · rw [uI_at, if_pos rfl, if_neg (by omega)]; exact y0
    · rw [uI_at, if_pos rfl, if_neg (by omega)]; exact y1
    · rw [uI_at, if_pos rfl, if_neg (by omega)]; exact y2
    · rw [uI_ne _ _ _ (by omega)]; exact y3
    · rw [uI_ne _ _ _ (by omega)]; exact y4
    · rw [uI_ne _ _ _ (by omega)]; exact y5
    · rw [uI_ne _ _ _ (by omega), uI_ne _ _ _ (by omega)]; exact y6
    · rw [uI_ne _ _ _ (by omega)]; exact y7
  · rw [uI_at, if_pos rfl, if_neg (by omega), ea]
  · rw [uI_at, if_pos rfl, if_pos rfl, ea]
theorem sp_Gr_colourIn {P : Int32 → aw_S → Prop} {gap m' : Nat} (hS : GrS sh S.2.2 a) (hb : bdG g) (H : GrG S.1 a g) (hg : gap < 8) (hm : m' ≤ g.m) (h : P (match lt_in g.f gap m' with | none => 6 | some k => nI (g.col (g.f k / 16 % 8))) S) : Sp l m_Gr_colourIn (d + 1 + 1) 0 0 [.ref a, .int (nI gap), .int (nI m')] sh S (gI sh P) := by
  have hn : g.n ≤ 7 := hb.1
  have hm4 : g.m ≤ 40 := hb.2.2.2.2.1
  refine e_Gr_colourIn hS.sa ⟨a + 6, hS.r10, hS.s6, sp_Pl_latestIn (H.pl hS hb) hg hm ?_⟩
  have lt_lt : ∀ m k, lt_in g.f gap m = some k → k < m := by
    intro m
    induction m with
    | zero => exact fun k h => by unfold lt_in at h; cases h
    | succ m ih =>
      intro k h
      unfold lt_in at h
      split at h
      · have e : m = k := Option.some.inj h
        omega
      · have := ih k h
        omega
  cases hu : lt_in g.f gap m' with
  | none =>
    rw [hu] at h
    exact ⟨fun q => absurd rfl q, fun _ => h⟩
  | some k =>
    rw [hu] at h
    have hk := lt_lt m' k hu
    have hw := (hb.2.2.2.2.2.1 k (by omega)).2.2.1
    refine ⟨fun _ => ⟨a + 2, hS.r6, a + 6, hS.r10, hS.s6, sp_Pl_upperAt (H.pl hS hb) (show k < g.m by omega) ⟨7, hS.s2, vp_in_nI (by omega) (by omega), ?_⟩⟩, fun q => absurd q (nI_ne_m1 (show k < 2 ^ 31 by omega))⟩
    rw [nI_clamp (by omega), H.2.2.2.2.2.1 _ hw]
    exact h
end MK
