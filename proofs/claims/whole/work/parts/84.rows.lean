/-! ROWS -/
def mxT (f R : Nat → Nat) (t : Nat → Bool) : Nat → Nat
  | 0 => 0
  | o + 1 => max (mxT f R t o) (if t (f o % 8) = true then R o else 0)
def gmx (R : Nat → Nat) : Nat → Nat
  | 0 => 0
  | k + 1 => max (gmx R k) (R k)
def rwL (n : Nat) (f : Nat → Nat) : Nat → Nat → Nat
  | 0 => fun _ => 0
  | k + 1 => upN (rwL n f k) k (1 + mxT f (rwL n f k) (tchN n (f k % 8)) k)
def rwN (n : Nat) (f : Nat → Nat) (k : Nat) : Nat := rwL n f (k + 1) k
theorem mxT_s (f R : Nat → Nat) (t : Nat → Bool) (o : Nat) : mxT f R t (o + 1) = max (mxT f R t o) (if t (f o % 8) = true then R o else 0) := rfl
theorem gmx_s (R : Nat → Nat) (o : Nat) : gmx R (o + 1) = max (gmx R o) (R o) := rfl
theorem mxT_cong {f R R' : Nat → Nat} {t : Nat → Bool} : ∀ k, (∀ o, o < k → R o = R' o) → mxT f R t k = mxT f R' t k := by
  intro k
  induction k with
  | zero => exact fun _ => rfl
  | succ k ih =>
    intro h
    rw [mxT_s, mxT_s, ih (fun o ho => h o (by omega)), h k (by omega)]
theorem rwL_lt {n : Nat} {f : Nat → Nat} {j : Nat} : ∀ k, j < k → rwL n f k j = rwN n f j := by
  intro k
  induction k with
  | zero => exact fun h => absurd h (Nat.not_lt_zero j)
  | succ k ih =>
    intro h
    by_cases e : j = k
    · subst e
      rfl
    · show upN (rwL n f k) k _ j = _
      rw [upN_lt e]
      exact ih (by omega)
theorem rwN_eq (n : Nat) (f : Nat → Nat) (k : Nat) : rwN n f k = 1 + mxT f (rwN n f) (tchN n (f k % 8)) k := by
  have e : rwN n f k = upN (rwL n f k) k (1 + mxT f (rwL n f k) (tchN n (f k % 8)) k) k := rfl
  rw [e, upN_self, mxT_cong k (fun o ho => rwL_lt k ho)]
theorem mxT_iff {f R : Nat → Nat} {t : Nat → Bool} {v : Nat} : ∀ k, mxT f R t k ≤ v ↔ ∀ o, o < k → t (f o % 8) = true → R o ≤ v := by
  intro k
  induction k with
  | zero => exact ⟨fun _ o h => absurd h (Nat.not_lt_zero o), fun _ => Nat.zero_le _⟩
  | succ k ih =>
    rw [mxT_s, Nat.max_le, ih]
    constructor
    · rintro ⟨h1, h2⟩ o ho ht
      by_cases e : o = k
      · subst e
        rw [if_pos ht] at h2
        exact h2
      · exact h1 o (by omega) ht
    · intro h
      refine ⟨fun o ho => h o (by omega), ?_⟩
      split
      · next q => exact h k (by omega) q
      · exact Nat.zero_le _
theorem gmx_iff {R : Nat → Nat} {v : Nat} : ∀ k, gmx R k ≤ v ↔ ∀ o, o < k → R o ≤ v := by
  intro k
  induction k with
  | zero => exact ⟨fun _ o h => absurd h (Nat.not_lt_zero o), fun _ => Nat.zero_le _⟩
  | succ k ih =>
    rw [gmx_s, Nat.max_le, ih]
    constructor
    · rintro ⟨h1, h2⟩ o ho
      by_cases e : o = k
      · subst e
        exact h2
      · exact h1 o (by omega)
    · exact fun h => ⟨fun o ho => h o (by omega), h k (by omega)⟩
theorem eq_le {x y : Nat} (h : ∀ v, x ≤ v ↔ y ≤ v) : x = y := Nat.le_antisymm ((h y).mpr (Nat.le_refl _)) ((h x).mp (Nat.le_refl _))
theorem rw_le (n : Nat) (f : Nat → Nat) : ∀ K k, k < K → rwN n f k ≤ k + 1 := by
  intro K
  induction K with
  | zero => exact fun k h => absurd h (Nat.not_lt_zero k)
  | succ K ih =>
    intro k hk
    rw [rwN_eq]
    have : mxT f (rwN n f) (tchN n (f k % 8)) k ≤ k := (mxT_iff k).mpr (fun o ho _ => by
      have := ih o (by omega)
      omega)
    omega
theorem mxT_le {n k : Nat} {f : Nat → Nat} {t : Nat → Bool} : mxT f (rwN n f) t k ≤ k := (mxT_iff k).mpr (fun o ho _ => by
  have := rw_le n f (o + 1) o (by omega)
  omega)
theorem gm_le {n k : Nat} {f : Nat → Nat} : gmx (rwN n f) k ≤ k := (gmx_iff k).mpr (fun o ho => by
  have := rw_le n f (o + 1) o (by omega)
  omega)
/-- the greatest row by gap among the first k -/
def rgN (n : Nat) (f : Nat → Nat) (k b : Nat) : Nat := mxT f (rwN n f) (fun x => decide (x = b)) k
def inM (n : Nat) (f : Nat → Nat) (k b : Nat) : Nat := if tmN n (f k % 8) / 2 ^ b % 2 = 0 then 0 else rgN n f k b
theorem rg_all {g : GM} (hb : bdG g) {k : Nat} (hk : k < g.m) : gmx (inM g.n g.f k) 7 = mxT g.f (rwN g.n g.f) (tchN g.n (g.f k % 8)) k := by
  have hn : g.n ≤ 7 := hb.1
  have hgp := gp_le g.n
  have bk := (hb.2.2.2.2.2.1 k hk).2.1
  obtain ⟨t1, t2⟩ := tm_b g.n (by omega) _ bk
  refine eq_le (fun v => ?_)
  rw [gmx_iff, mxT_iff]
  constructor
  · intro h o ho ht
    have bo := (hb.2.2.2.2.2.1 o (by omega)).2.1
    have h1 := h (g.f o % 8) (by omega)
    unfold inM at h1
    rw [if_neg (fun z => absurd ht (by rw [(t2 _ bo).mp z]; decide))] at h1
    exact (mxT_iff k).mp h1 o ho (by simp)
  · intro h b hb7
    unfold inM
    split
    · exact Nat.zero_le _
    · next q =>
      refine (mxT_iff k).mpr (fun o ho hob => ?_)
      have hob : g.f o % 8 = b := by simpa using hob
      have bo := (hb.2.2.2.2.2.1 o (by omega)).2.1
      refine h o ho ?_
      by_cases c : tchN g.n (g.f k % 8) (g.f o % 8) = true
      · exact c
      · have c : tchN g.n (g.f k % 8) (g.f o % 8) = false := by simpa using c
        exact absurd ((t2 _ bo).mpr c) (by rw [hob]; exact q)
theorem rg_step {g : GM} {k b : Nat} : rgN g.n g.f (k + 1) b = if b = g.f k % 8 then rwN g.n g.f k else rgN g.n g.f k b := by
  unfold rgN
  rw [mxT_s]
  by_cases e : b = g.f k % 8
  · rw [if_pos e, if_pos (by simp [e])]
    refine Nat.max_eq_right ?_
    rw [rwN_eq]
    have : mxT g.f (rwN g.n g.f) (fun x => decide (x = b)) k ≤ mxT g.f (rwN g.n g.f) (tchN g.n (g.f k % 8)) k := (mxT_iff k).mpr (fun o ho hob => by
      have hob : g.f o % 8 = b := by simpa using hob
      exact (mxT_iff k).mp (Nat.le_refl _) o ho (by rw [hob, e]; exact tch_self _ _))
    omega
  · rw [if_neg e, if_neg (by simp; exact fun z => e z.symm), Nat.max_eq_left (Nat.zero_le _)]
theorem rg_top {g : GM} (hb : bdG g) : gmx (rgN g.n g.f g.m) 7 = gmx (rwN g.n g.f) g.m := by
  have hn : g.n ≤ 7 := hb.1
  have hgp := gp_le g.n
  refine eq_le (fun v => ?_)
  rw [gmx_iff, gmx_iff]
  constructor
  · intro h o ho
    have bo := (hb.2.2.2.2.2.1 o ho).2.1
    exact (mxT_iff g.m).mp (h (g.f o % 8) (by omega)) o ho (by simp)
  · exact fun h b _ => (mxT_iff g.m).mpr (fun o ho _ => h o ho)
section RW
variable {l : Launch} {d : Nat} {sh : aw_SH} {S : aw_S} {g : GM} {a : Nat}
theorem sp_maxN {P : Int32 → aw_S → Prop} {x y : Nat} (hx : x < 2 ^ 31) (hy : y < 2 ^ 31) (h : P (nI (max x y)) S) : Sp l m_Ma_max (d + 1) 0 0 [.int (nI x), .int (nI y)] sh S (gI sh P) := by
  refine e_Ma_max ⟨fun q => ?_, fun q => ?_⟩
  · rw [Nat.max_eq_right (Nat.le_of_lt ((nI_ltI hx hy).mp q))] at h
    exact h
  · rw [Nat.max_eq_left (Nat.not_lt.mp (fun z => q (nI_lt z hy)))] at h
    exact h
theorem sp_fillI {P : aw_S → Prop} {r n : Nat} {v : Int32} (sr : sh[r]? = some (3, n)) (hn : n < 2 ^ 31) (h : P (aw_wI S r (fun j => if j < n then v else S.1 r j))) : Sp l m_Ar_fill_AIIV (d + 1) 0 0 [.ref r, .int v] sh S (gV sh P) := by
  refine e_Ar_fill_AIIV ⟨n, sr, ?_⟩
  have key : ∀ j k, k + j = n → AW l m_Ar_fill_AIIV (d + 1) 0 0 (gV sh P) 0 0 5 [.ref r, .int v, .int (nI k), .int (nI n)] [] sh (aw_wI S r (fun j => if j < k then v else S.1 r j)) := by
    intro j
    induction j with
    | zero =>
      intro k hk
      have hk : k = n := hk
      subst hk
      exact s_Ar_fill_AIIV_5 ⟨fun _ => h, fun q => absurd (nI_le (Nat.le_refl _) hn) q⟩
    | succ j ih =>
      intro k hk
      refine s_Ar_fill_AIIV_5 ⟨fun q => absurd q (nI_ge (by omega) hn), fun _ => ⟨n, sr, vp_in_nI (by omega) hn, ?_⟩⟩
      have e := ih (k + 1) (by omega)
      rw [nI_1, nI_clamp (by omega), uI_w, wI_wI, wI_self]
      have ef := updI_fill (A := fun j => j < k) (B := fun j => j < k + 1) (S.1 r) k v (fun j => by omega)
      rw [ef]
      exact e
  have e0 : aw_wI S r (fun j => if j < 0 then v else S.1 r j) = S := by
    have : (fun j => if j < 0 then v else S.1 r j) = S.1 r := by
      funext j
      rw [if_neg (Nat.not_lt_zero j)]
    rw [this, wI_id]
  have := key n 0 (by omega)
  rw [e0] at this
  exact this
theorem MdG.off {S' : aw_S} (hb : bdG g) (H : MdG S.1 0 g) (h : S'.1 115 = S.1 115) : MdG S'.1 0 g := H.fr hb.1 hb.2.2.2.2.1 (fun j _ => by rw [h])
theorem sp_Md_laysRows {P : Int32 → aw_S → Prop} (hS : MdS sh S.2.2) (hb : bdG g) (H : MdG S.1 0 g) (r24 : S.2.2 114 24 = some 123) (s123 : sh[123]? = some (3, 40)) (h : ∀ S', FrI (fun k _ => k = 123) S S' → (∀ i, i < g.m → S'.1 123 i = nI (rwN g.n g.f i)) → P (nI (gmx (rwN g.n g.f) g.m)) S') : Sp l m_Md_laysRows (d + 1 + 1 + 1) 0 0 [.ref 114] sh S (gI sh P) := by
  have hm : g.m ≤ 40 := hb.2.2.2.2.1
  have hn : g.n ≤ 7 := hb.1
  have hgp := gp_le g.n
  refine e_Md_laysRows hS.1 ?_
  have key : ∀ j k S', k + j = g.m → FrI (fun k _ => k = 123) S S' → (∀ i, i < k → S'.1 123 i = nI (rwN g.n g.f i)) → AW l m_Md_laysRows (d + 1 + 1 + 1) 0 0 (gI sh P) 0 0 4 [.ref 114, .int (nI (gmx (rwN g.n g.f) k)), .int (nI k), .null] [] sh S' := by
    intro j
    induction j with
    | zero =>
      intro k S' hk F V
      have hk : k = g.m := hk
      subst hk
      have y3 : S'.1 115 3 = nI g.m := (MdG.off hb H (F.cell (fun j => by omega))).2.2.2.1
      refine s_Md_laysRows_4 hS.1 ⟨115, by rw [F.R]; exact hS.2.1, 3864, hS.2.2, vp_in_nI (n := 3) (by omega) (by omega), ?_⟩
      show ((S'.1 115 3 ≤ _ → _) ∧ (¬ S'.1 115 3 ≤ _ → _))
      rw [y3]
      exact ⟨fun _ => h S' F V, fun q => absurd (nI_le (Nat.le_refl _) (by omega)) q⟩
    | succ j ih =>
      intro k S' hk F V
      have y3 : S'.1 115 3 = nI g.m := (MdG.off hb H (F.cell (fun j => by omega))).2.2.2.1
      have bk := (hb.2.2.2.2.2.1 k (by omega)).2.1
      have n2 := gp_2 bk
      refine s_Md_laysRows_4 hS.1 ⟨115, by rw [F.R]; exact hS.2.1, 3864, hS.2.2, vp_in_nI (n := 3) (by omega) (by omega), ?_⟩
      show ((S'.1 115 3 ≤ _ → _) ∧ (¬ S'.1 115 3 ≤ _ → _))
      rw [y3]
      refine ⟨fun q => absurd q (nI_ge (by omega) (by omega)), fun _ => ⟨123, by rw [F.R]; exact r24, 40, s123, vp_in_nI (by omega) (by omega), ?_⟩⟩
      rw [nI_clamp (by omega)]
      have inner : ∀ j' o T, o + j' = k → FrI (fun k _ => k = 123) S T → (∀ i, i < k → T.1 123 i = nI (rwN g.n g.f i)) → T.1 123 k = nI (1 + mxT g.f (rwN g.n g.f) (tchN g.n (g.f k % 8)) o) → AW l m_Md_laysRows (d + 1 + 1 + 1) 0 0 (gI sh P) 0 0 23 [.ref 114, .int (nI (gmx (rwN g.n g.f) k)), .int (nI k), .int (nI o)] [] sh T := by
        intro j'
        induction j' with
        | zero =>
          intro o T ho FT VT VK
          have ho : o = k := ho
          subst ho
          refine s_Md_laysRows_23 hS.1 ⟨fun _ => ⟨123, by rw [FT.R]; exact r24, 40, s123, vp_in_nI (by omega) (by omega), ?_⟩, fun q => absurd (nI_le (Nat.le_refl _) (by omega)) q⟩
          rw [nI_clamp (by omega), VK, ← rwN_eq]
          have b1 := gm_le (n := g.n) (k := o) (f := g.f)
          have b2 := rw_le g.n g.f (o + 1) o (by omega)
          refine sp_maxN (by omega) (by omega) ?_
          rw [nI_1]
          refine ih (o + 1) T (by omega) FT (fun i hi => ?_)
          by_cases e : i = o
          · rw [e, VK, ← rwN_eq]
          · exact VT i (by omega)
        | succ j' ih' =>
          intro o T ho FT VT VK
          have MT := MdG.off hb H (FT.cell (k := 115) (fun j => by omega))
          have bo := (hb.2.2.2.2.2.1 o (by omega)).2.1
          have hMT : MdS sh T.2.2 := by rw [FT.R]; exact hS
          refine s_Md_laysRows_23 hS.1 ⟨fun q => absurd q (nI_ge (by omega) (by omega)), fun _ => sp_Md_passOf (w := 0) hMT hb MT (by omega) (by omega) (sp_Md_passOf (w := 0) hMT hb MT (by omega) (by omega) ?_)⟩
          show Sp l m_Md_isTouching _ 0 0 [.ref 114, .int (nI 0), .int (nI (g.f o % 8)), .int (nI (g.f k % 8))] sh T _
          refine sp_Md_isTouching (s := 0) hMT (by omega) hn n2 (by omega) (by omega) MT.1 (fun ht => ⟨fun q => absurd q (by decide), fun _ => ⟨123, by rw [FT.R]; exact r24, 40, s123, vp_in_nI (by omega) (by omega), vp_in_nI (by omega) (by omega), ?_⟩⟩) (fun ht => ⟨fun _ => ?_, fun q => absurd rfl q⟩)
          · rw [nI_clamp (by omega), nI_clamp (by omega), VK, VT o (by omega), nI_1]
            have b1 := mxT_le (n := g.n) (k := o) (f := g.f) (t := tchN g.n (g.f k % 8))
            have b2 := rw_le g.n g.f (o + 1) o (by omega)
            refine sp_maxN (by omega) (by omega) ⟨vp_in_nI (by omega) (by omega), ?_⟩
            rw [nI_1]
            refine ih' (o + 1) _ (by omega) (FT.uI _ rfl) (fun i hi => ?_) ?_
            · rw [uI_at, if_pos rfl, if_neg (by omega)]
              exact VT i hi
            · rw [uI_at, if_pos rfl, if_pos rfl, mxT_s, if_pos (by rw [tch_sym]; exact ht)]
              congr 1
              omega
          · rw [nI_1]
            refine ih' (o + 1) T (by omega) FT VT ?_
            rw [VK, mxT_s, if_neg (by rw [tch_sym, ht]; decide), Nat.max_eq_left (Nat.zero_le _)]
      refine inner k 0 _ (by omega) (F.uI _ rfl) (fun i hi => ?_) ?_
      · rw [uI_at, if_pos rfl, if_neg (by omega)]
        exact V i hi
      · rw [uI_at, if_pos rfl, if_pos rfl]
        rfl
  exact key g.m 0 S (by omega) (FrI.refl _ _) (fun i hi => absurd hi (Nat.not_lt_zero i))
theorem GrG.off {S' : aw_S} (H : GrG S.1 a g) (F : FrI (fun c _ => c = a + 14) S S') : GrG S'.1 a g := H.fr (fun k q1 q2 => F.cell (fun j => by omega))
theorem sp_Gr_rowAt {P : Int32 → aw_S → Prop} {K : Nat} (hS : GrS sh S.2.2 a) (hb : bdG g) (H : GrG S.1 a g) (hK : K ≤ g.m) (h : ∀ S', FrI (fun c _ => c = a + 14) S S' → (∀ b, b < 7 → S'.1 (a + 14) b = nI (rgN g.n g.f K b)) → P (nI (if K = 0 then 0 else rwN g.n g.f (K - 1))) S') : Sp l m_Gr_rowAt (d + 1 + 1 + 1) 0 0 [.ref a, .int (nI K - 1)] sh S (gI sh P) := by
  have hm : g.m ≤ 40 := hb.2.2.2.2.1
  have hn : g.n ≤ 7 := hb.1
  have hgp := gp_le g.n
  have cmp : ∀ k, k ≤ 41 → (nI K - 1 < nI k ↔ K ≤ k) := by
    intro k hk
    have e : (nI K - 1).toInt = (K : Int) - 1 := pk_sub_toInt (b := 1) (by omega) (by omega)
    rw [Int32.lt_iff_toInt_lt, e, nI_toInt (by omega)]
    omega
  refine e_Gr_rowAt hS.sa ⟨a + 14, hS.r12, sp_fillI hS.s14 (by omega) ?_⟩
  have key : ∀ j k S', k + j = K → FrI (fun c _ => c = a + 14) S S' → (∀ b, b < 7 → S'.1 (a + 14) b = nI (rgN g.n g.f k b)) → AW l m_Gr_rowAt (d + 1 + 1 + 1) 0 0 (gI sh P) 0 0 12 [.ref a, .int (nI K - 1), .int (nI (if k = 0 then 0 else rwN g.n g.f (k - 1))), .int (nI k), .null, .null] [] sh S' := by
    intro j
    induction j with
    | zero =>
      intro k S' hk F V
      have hk : k = K := hk
      subst hk
      exact s_Gr_rowAt_12 hS.sa ⟨fun _ => h S' F V, fun q => absurd ((cmp k (by omega)).mpr (Nat.le_refl _)) q⟩
    | succ j ih =>
      intro k S' hk F V
      have G := H.off F
      have hSS : GrS sh S'.2.2 a := by rw [F.R]; exact hS
      have bk := (hb.2.2.2.2.2.1 k (by omega)).2.1
      have tb := (tm_b g.n (by omega) _ bk).1
      refine s_Gr_rowAt_12 hS.sa ⟨fun q => absurd ((cmp k (by omega)).mp q) (by omega), fun _ => ⟨a + 6, hSS.r10, hS.s6, sp_Pl_gapAt (G.pl hSS hb) (by omega) (sp_Gr_touching hS.sa hn bk G.1 ?_)⟩⟩
      have inner : ∀ j' b, b + j' = 7 → AW l m_Gr_rowAt (d + 1 + 1 + 1) 0 0 (gI sh P) 0 0 36 [.ref a, .int (nI K - 1), .int (nI (gmx (inM g.n g.f k) b)), .int (nI k), .int (nI (tmN g.n (g.f k % 8))), .int (nI b)] [] sh S' := by
        intro j'
        induction j' with
        | zero =>
          intro b hb7
          have hb7 : b = 7 := hb7
          subst hb7
          refine s_Gr_rowAt_36 hS.sa ⟨fun _ => ⟨a + 14, hSS.r12, a + 6, hSS.r10, hS.s6, sp_Pl_gapAt (G.pl hSS hb) (by omega) ⟨7, hS.s14, vp_in_nI (by omega) (by omega), ?_⟩⟩, fun q => absurd (by decide) q⟩
          have e1 : gmx (inM g.n g.f k) 7 + 1 = rwN g.n g.f k := by
            rw [rg_all hb (by omega), rwN_eq]
            omega
          rw [nI_clamp (by omega), nI_1, nI_1, e1]
          have e := ih (k + 1) (aw_uI S' (a + 14) (g.f k % 8) (nI (rwN g.n g.f k))) (by omega) (F.uI _ rfl) (fun b hb' => by
            rw [uI_at, if_pos rfl, rg_step]
            by_cases c : b = g.f k % 8
            · rw [if_pos c, if_pos c]
            · rw [if_neg c, if_neg c]
              exact V b hb')
          exact e
        | succ j' ih' =>
          intro b hb7
          have e := ih' (b + 1) (by omega)
          rw [gmx_s] at e
          refine s_Gr_rowAt_36 hS.sa ⟨fun q => absurd q (nI_ge (b := 7) (by omega) (by omega)), fun _ => ⟨fun q => ?_, fun q => ⟨a + 14, hSS.r12, 7, hS.s14, vp_in_nI (by omega) (by omega), ?_⟩⟩⟩
          · have q := (n_bit0 (by omega) (by omega)).mp q
            rw [show inM g.n g.f k b = 0 from if_pos q, Nat.max_eq_left (Nat.zero_le _)] at e
            rw [nI_1]
            exact e
          · have q : ¬ tmN g.n (g.f k % 8) / 2 ^ b % 2 = 0 := fun z => q ((n_bit0 (by omega) (by omega)).mpr z)
            rw [show inM g.n g.f k b = rgN g.n g.f k b from if_neg q] at e
            rw [nI_clamp (by omega), V b (by omega), nI_1]
            have b1 : rgN g.n g.f k b ≤ k := mxT_le
            have b2 : gmx (inM g.n g.f k) b ≤ k := (gmx_iff b).mpr (fun o _ => by
              unfold inM
              split
              · exact Nat.zero_le _
              · exact mxT_le)
            exact sp_maxN (by omega) (by omega) e
      exact inner 7 0 (by omega)
  refine key K 0 _ (by omega) ((FrI.refl (fun c _ => c = a + 14) S).wI _ (fun j => Or.inl rfl)) (fun b hb' => ?_)
  rw [wI_self, if_pos hb']
  rfl
theorem sp_Gr_greatestRow {P : Int32 → aw_S → Prop} (hS : GrS sh S.2.2 a) (hb : bdG g) (H : GrG S.1 a g) (h : ∀ S', FrI (fun c _ => c = a + 14) S S' → P (nI (gmx (rwN g.n g.f) g.m)) S') : Sp l m_Gr_greatestRow (d + 1 + 1 + 1 + 1) 0 0 [.ref a] sh S (gI sh P) := by
  have hm : g.m ≤ 40 := hb.2.2.2.2.1
  refine e_Gr_greatestRow hS.sa ⟨a + 6, hS.r10, hS.s6, ?_⟩
  rw [H.2.2.2.1]
  refine sp_Gr_rowAt hS hb H (Nat.le_refl _) (fun S' F V => ?_)
  have key : ∀ j b, b + j = 7 → AW l m_Gr_greatestRow (d + 1 + 1 + 1 + 1) 0 0 (gI sh P) 0 0 18 [.ref a, .int (nI (gmx (rgN g.n g.f g.m) b)), .int (nI b)] [] sh S' := by
    intro j
    induction j with
    | zero =>
      intro b hb7
      have hb7 : b = 7 := hb7
      subst hb7
      rw [rg_top hb]
      exact s_Gr_greatestRow_18 hS.sa ⟨fun _ => h S' F, fun q => absurd (by decide) q⟩
    | succ j ih =>
      intro b hb7
      have e := ih (b + 1) (by omega)
      rw [gmx_s] at e
      refine s_Gr_greatestRow_18 hS.sa ⟨fun q => absurd q (nI_ge (b := 7) (by omega) (by omega)), fun _ => ⟨a + 14, by rw [F.R]; exact hS.r12, 7, hS.s14, vp_in_nI (by omega) (by omega), ?_⟩⟩
      rw [nI_clamp (by omega), V b (by omega), nI_1]
      have b1 : rgN g.n g.f g.m b ≤ g.m := mxT_le
      have b2 : gmx (rgN g.n g.f g.m) b ≤ g.m := (gmx_iff b).mpr (fun o _ => mxT_le)
      exact sp_maxN (by omega) (by omega) e
  exact key 7 0 (by omega)
end RW
