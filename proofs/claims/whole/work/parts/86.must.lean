/-! what must go -/
def anB (f : Nat → Nat) (H : Nat → Bool) (t : Nat → Bool) : Nat → Bool
  | 0 => false
  | o + 1 => anB f H t o || (H o && t (f o % 8))
def hdL (n : Nat) (f : Nat → Nat) (A : Nat → Bool) : Nat → Nat → Bool
  | 0 => fun _ => false
  | k + 1 => fun j => if j = k then (A k || anB f (hdL n f A k) (tchN n (f k % 8)) k) else hdL n f A k j
def hdN (n : Nat) (f : Nat → Nat) (A : Nat → Bool) (k : Nat) : Bool := hdL n f A (k + 1) k
def ctB (H : Nat → Bool) : Nat → Nat
  | 0 => 0
  | k + 1 => ctB H k + (if H k = true then 1 else 0)
theorem ctB_s (H : Nat → Bool) (k : Nat) : ctB H (k + 1) = ctB H k + (if H k = true then 1 else 0) := rfl
theorem anB_s (f : Nat → Nat) (H t : Nat → Bool) (o : Nat) : anB f H t (o + 1) = (anB f H t o || (H o && t (f o % 8))) := rfl
theorem anB_iff {f : Nat → Nat} {H t : Nat → Bool} : ∀ k, anB f H t k = true ↔ ∃ o, o < k ∧ H o = true ∧ t (f o % 8) = true := by
  intro k
  induction k with
  | zero => exact ⟨fun h => (by cases h), fun ⟨o, h, _⟩ => absurd h (Nat.not_lt_zero o)⟩
  | succ k ih =>
    rw [anB_s, Bool.or_eq_true, ih, Bool.and_eq_true]
    constructor
    · rintro (⟨o, h1, h2⟩ | h)
      · exact ⟨o, by omega, h2⟩
      · exact ⟨k, by omega, h⟩
    · rintro ⟨o, h1, h2⟩
      by_cases e : o = k
      · subst e; exact Or.inr h2
      · exact Or.inl ⟨o, by omega, h2⟩
theorem anB_cong {f : Nat → Nat} {H H' t : Nat → Bool} : ∀ k, (∀ o, o < k → H o = H' o) → anB f H t k = anB f H' t k := by
  intro k
  induction k with
  | zero => exact fun _ => rfl
  | succ k ih =>
    intro h
    rw [anB_s, anB_s, ih (fun o ho => h o (by omega)), h k (by omega)]
theorem hdL_lt {n : Nat} {f : Nat → Nat} {A : Nat → Bool} {j : Nat} : ∀ k, j < k → hdL n f A k j = hdN n f A j := by
  intro k
  induction k with
  | zero => exact fun h => absurd h (Nat.not_lt_zero j)
  | succ k ih =>
    intro h
    by_cases e : j = k
    · subst e
      rfl
    · show (if j = k then _ else hdL n f A k j) = _
      rw [if_neg e]
      exact ih (by omega)
theorem hdN_eq (n : Nat) (f : Nat → Nat) (A : Nat → Bool) (k : Nat) : hdN n f A k = (A k || anB f (hdN n f A) (tchN n (f k % 8)) k) := by
  have e : hdN n f A k = (if k = k then (A k || anB f (hdL n f A k) (tchN n (f k % 8)) k) else hdL n f A k k) := rfl
  rw [e, if_pos rfl, anB_cong k (fun o ho => hdL_lt k ho)]
theorem ct_le (H : Nat → Bool) (k : Nat) : ctB H k ≤ k := by
  induction k with
  | zero => exact Nat.le_refl _
  | succ k ih =>
    rw [ctB_s]
    split <;> omega
def bI (b : Bool) : Int32 := if b = true then 1 else 0
theorem bI_0 (b : Bool) : bI b = 0 ↔ b = false := by cases b <;> decide
theorem nar_0 : vp_nar .boolean 0 = 0 := by decide
theorem nar_1 : vp_nar .boolean 1 = 1 := by decide
section MG
variable {l : Launch} {d : Nat} {sh : aw_SH} {S : aw_S} {g : GM} {a : Nat}
theorem sp_Gr_mustGo {P : Int32 → aw_S → Prop} {x y : Int32} {A : Nat → Bool} (hS : GrS sh S.2.2 a) (hb : bdG g) (H : GrG S.1 a g) (hA : ∀ k, k < g.m → ((nI k = x ∨ nI (g.f k / 16 % 8) = y ∨ nI (g.f k / 128 % 8) = y) ↔ A k = true)) (h : P (nI (ctB (hdN g.n g.f A) g.m)) S) : Sp l m_Gr_mustGo (d + 1 + 1 + 1) 0 0 [.ref a, .int x, .int y] sh S (gI sh P) := by
  have hm : g.m ≤ 40 := hb.2.2.2.2.1
  have hn : g.n ≤ 7 := hb.1
  have hgp := gp_le g.n
  refine e_Gr_mustGo hS.sa ?_
  have key : ∀ j k w, k + j = g.m → stP g w k (fun o => hdN g.n g.f A o = true) → AW l m_Gr_mustGo (d + 1 + 1 + 1) 0 0 (gI sh P) 0 0 8 [.ref a, .int x, .int y, .int (nI (ctB (hdN g.n g.f A) k)), .int (nI w), .int (nI k), .null, .null] [] sh S := by
    intro j
    induction j with
    | zero =>
      intro k w hk hw
      have hk : k = g.m := hk
      subst hk
      refine s_Gr_mustGo_8 hS.sa ⟨a + 6, hS.r10, hS.s6, ?_⟩
      rw [H.2.2.2.1]
      exact ⟨fun _ => h, fun q => absurd (nI_le (Nat.le_refl _) (by omega)) q⟩
    | succ j ih =>
      intro k w hk hw
      have bk := (hb.2.2.2.2.2.1 k (by omega)).2.1
      obtain ⟨t1, t2⟩ := tm_b g.n (by omega) _ bk
      have hw1 := hw.1
      refine s_Gr_mustGo_8 hS.sa ⟨a + 6, hS.r10, hS.s6, ?_⟩
      rw [H.2.2.2.1, nI_1, nI_1]
      have yes : hdN g.n g.f A k = true → AW l m_Gr_mustGo (d + 1 + 1 + 1) 0 0 (gI sh P) 0 0 8 [.ref a, .int x, .int y, .int (nI (ctB (hdN g.n g.f A) k + 1)), .int (nI w ||| ((1 : Int32) <<< (nI (g.f k % 8) &&& 31))), .int (nI (k + 1)), .null, .null] [] sh S := by
        intro q
        have e := ih (k + 1) _ (by omega) (hw.yes (by omega) q)
        rw [ctB_s, if_pos q] at e
        rw [or_w w hw1 _ (by omega)]
        exact e
      have no : hdN g.n g.f A k = false → AW l m_Gr_mustGo (d + 1 + 1 + 1) 0 0 (gI sh P) 0 0 8 [.ref a, .int x, .int y, .int (nI (ctB (hdN g.n g.f A) k)), .int (nI w), .int (nI (k + 1)), .null, .null] [] sh S := by
        intro q
        have q2 : ¬ hdN g.n g.f A k = true := by rw [q]; decide
        have e := ih (k + 1) _ (by omega) (hw.no q2)
        rw [ctB_s, if_neg q2, Nat.add_zero] at e
        exact e
      have ask : A k = true → hdN g.n g.f A k = true := fun q => by rw [hdN_eq, q]; rfl
      have an : (nI (tmN g.n (g.f k % 8)) &&& nI w = 0) ↔ anB g.f (hdN g.n g.f A) (tchN g.n (g.f k % 8)) k = false := by
        have lt : tmN g.n (g.f k % 8) &&& w ≤ tmN g.n (g.f k % 8) := Nat.and_le_left
        rw [n_and _ _ (by omega) (by omega), show (0 : Int32) = nI 0 from rfl, nI_inj (by omega) (by omega), and_0]
        constructor
        · intro q
          cases e : anB g.f (hdN g.n g.f A) (tchN g.n (g.f k % 8)) k
          · rfl
          · obtain ⟨o, h1, h2, h3⟩ := (anB_iff k).mp e
            have bo := (hb.2.2.2.2.2.1 o (by omega)).2.1
            refine absurd ⟨(bit_dm _ _).mpr ?_, (hw.2 _).mpr ⟨o, h1, h2, rfl⟩⟩ (q (g.f o % 8))
            have : ¬ tmN g.n (g.f k % 8) / 2 ^ (g.f o % 8) % 2 = 0 := fun z => absurd h3 (by rw [(t2 _ bo).mp z]; decide)
            omega
        · rintro q i ⟨z1, z2⟩
          obtain ⟨o, h1, h2, h3⟩ := (hw.2 _).mp z2
          have bo := (hb.2.2.2.2.2.1 o (by omega)).2.1
          have : anB g.f (hdN g.n g.f A) (tchN g.n (g.f k % 8)) k = true := (anB_iff k).mpr ⟨o, h1, h2, by
            cases e : tchN g.n (g.f k % 8) (g.f o % 8)
            · have z1 := (bit_dm _ _).mp z1
              rw [← h3, (t2 _ bo).mpr e] at z1
              cases z1
            · rfl⟩
          rw [q] at this
          cases this
      refine ⟨fun q => absurd q (nI_ge (by omega) (by omega)), fun _ => sp_Pl_gapAt (H.pl hS hb) (by omega) ⟨fun q => yes (ask ((hA k (by omega)).mp (Or.inl q))), fun q => ⟨a + 6, hS.r10, hS.s6, e_Pl_has hS.s6 (sp_Pl_upperAt (H.pl hS hb) (by omega) ⟨fun q1 => ⟨fun z => absurd z (by decide), fun _ => yes (ask ((hA k (by omega)).mp (Or.inr (Or.inl q1))))⟩, fun q1 => sp_Pl_lowerAt (H.pl hS hb) (by omega) ⟨fun q2 => ⟨fun _ => sp_Gr_touching hS.sa hn bk H.1 ?_, fun z => absurd rfl z⟩, fun q2 => ⟨fun z => absurd z (by decide), fun _ => yes (ask ((hA k (by omega)).mp (Or.inr (Or.inr q2))))⟩⟩⟩)⟩⟩⟩
      have nA : A k = false := by
        cases e : A k
        · rfl
        · rcases (hA k (by omega)).mpr e with z | z | z
          · exact absurd z q
          · exact absurd z q1
          · exact absurd z q2
      refine ⟨fun z => no ?_, fun z => yes ?_⟩
      · rw [hdN_eq, nA, an.mp z]; rfl
      · rw [hdN_eq, nA]
        cases e : anB g.f (hdN g.n g.f A) (tchN g.n (g.f k % 8)) k
        · exact absurd (an.mpr e) z
        · rfl
  exact key g.m 0 0 (by omega) (stP.zero g _)
theorem sp_Md_laysHeld {P : Int32 → aw_S → Prop} {A : Nat → Bool} (hS : MdS sh S.2.2) (hb : bdG g) (H : MdG S.1 0 g) (r25 : S.2.2 114 25 = some 124) (s124 : sh[124]? = some (2, 40)) (hA : ∀ k, k < g.m → S.1 124 k = bI (A k)) (h : ∀ S', FrI (fun k _ => k = 124) S S' → P (nI (ctB (hdN g.n g.f A) g.m)) S') : Sp l m_Md_laysHeld (d + 1 + 1 + 1) 0 0 [.ref 114] sh S (gI sh P) := by
  have hm : g.m ≤ 40 := hb.2.2.2.2.1
  have hn : g.n ≤ 7 := hb.1
  have hgp := gp_le g.n
  refine e_Md_laysHeld hS.1 ?_
  have key : ∀ j k S', k + j = g.m → FrI (fun k _ => k = 124) S S' → (∀ i, i < k → S'.1 124 i = bI (hdN g.n g.f A i)) → (∀ i, k ≤ i → i < g.m → S'.1 124 i = bI (A i)) → AW l m_Md_laysHeld (d + 1 + 1 + 1) 0 0 (gI sh P) 0 0 4 [.ref 114, .int (nI (ctB (hdN g.n g.f A) k)), .int (nI k), .null] [] sh S' := by
    intro j
    induction j with
    | zero =>
      intro k S' hk F V V2
      have hk : k = g.m := hk
      subst hk
      have y3 : S'.1 115 3 = nI g.m := (MdG.off hb H (F.cell (fun j => by omega))).2.2.2.1
      refine s_Md_laysHeld_4 hS.1 ⟨115, by rw [F.R]; exact hS.2.1, 3864, hS.2.2, vp_in_nI (n := 3) (by omega) (by omega), ?_⟩
      show ((S'.1 115 3 ≤ _ → _) ∧ (¬ S'.1 115 3 ≤ _ → _))
      rw [y3]
      exact ⟨fun _ => h S' F, fun q => absurd (nI_le (Nat.le_refl _) (by omega)) q⟩
    | succ j ih =>
      intro k S' hk F V V2
      have y3 : S'.1 115 3 = nI g.m := (MdG.off hb H (F.cell (fun j => by omega))).2.2.2.1
      have bk := (hb.2.2.2.2.2.1 k (by omega)).2.1
      have n2 := gp_2 bk
      refine s_Md_laysHeld_4 hS.1 ⟨115, by rw [F.R]; exact hS.2.1, 3864, hS.2.2, vp_in_nI (n := 3) (by omega) (by omega), ?_⟩
      show ((S'.1 115 3 ≤ _ → _) ∧ (¬ S'.1 115 3 ≤ _ → _))
      rw [y3]
      refine ⟨fun q => absurd q (nI_ge (by omega) (by omega)), fun _ => ?_⟩
      -- what the inner round ends with
      have fin : ∀ T, FrI (fun k _ => k = 124) S T → (∀ i, i < k → T.1 124 i = bI (hdN g.n g.f A i)) → (∀ i, k < i → i < g.m → T.1 124 i = bI (A i)) → T.1 124 k = bI (hdN g.n g.f A k) → ((T.1 124 k = 0 → AW l m_Md_laysHeld (d + 1 + 1 + 1) 0 0 (gI sh P) 0 0 4 [.ref 114, .int (nI (ctB (hdN g.n g.f A) k) + (0 : Int32)), .int (nI k + 1), .null] [] sh T) ∧ (¬ T.1 124 k = 0 → AW l m_Md_laysHeld (d + 1 + 1 + 1) 0 0 (gI sh P) 0 0 4 [.ref 114, .int (nI (ctB (hdN g.n g.f A) k) + (1 : Int32)), .int (nI k + 1), .null] [] sh T)) := by
        intro T FT VT VT2 VK
        have e := ih (k + 1) T (by omega) FT (fun i hi => by
          by_cases c : i = k
          · rw [c]; exact VK
          · exact VT i (by omega)) (fun i h1 h2 => VT2 i (by omega) h2)
        rw [ctB_s] at e
        rw [VK, bI_0, nA0, nA1, nI_1]
        refine ⟨fun q => ?_, fun q => ?_⟩
        · rw [if_neg (by rw [q]; decide)] at e
          exact e
        · rw [if_pos (by simpa using q)] at e
          exact e
      have inner : ∀ j' o T, o + j' = k → FrI (fun k _ => k = 124) S T → (∀ i, i < k → T.1 124 i = bI (hdN g.n g.f A i)) → (∀ i, k < i → i < g.m → T.1 124 i = bI (A i)) → T.1 124 k = bI (A k || anB g.f (hdN g.n g.f A) (tchN g.n (g.f k % 8)) o) → AW l m_Md_laysHeld (d + 1 + 1 + 1) 0 0 (gI sh P) 0 0 16 [.ref 114, .int (nI (ctB (hdN g.n g.f A) k)), .int (nI k), .int (nI o)] [] sh T := by
        intro j'
        induction j' with
        | zero =>
          intro o T ho FT VT VT2 VK
          have ho : o = k := ho
          subst ho
          refine s_Md_laysHeld_16 hS.1 ⟨fun _ => ⟨124, by rw [FT.R]; exact r25, 40, s124, vp_in_nI (by omega) (by omega), ?_⟩, fun q => absurd (nI_le (Nat.le_refl _) (by omega)) q⟩
          rw [nI_clamp (by omega)]
          exact fin T FT VT VT2 (by rw [VK, hdN_eq])
        | succ j' ih' =>
          intro o T ho FT VT VT2 VK
          have MT := MdG.off hb H (FT.cell (k := 115) (fun j => by omega))
          have bo := (hb.2.2.2.2.2.1 o (by omega)).2.1
          have hMT : MdS sh T.2.2 := by rw [FT.R]; exact hS
          refine s_Md_laysHeld_16 hS.1 ⟨fun q => absurd q (nI_ge (by omega) (by omega)), fun _ => ⟨124, by rw [FT.R]; exact r25, 40, s124, vp_in_nI (by omega) (by omega), ?_⟩⟩
          rw [nI_clamp (show k < 2 ^ 31 by omega), nI_clamp (show o < 2 ^ 31 by omega)]
          refine ⟨fun q => ⟨vp_in_nI (by omega) (by omega), fin T FT VT VT2 ?_⟩, fun q => ⟨vp_in_nI (by omega) (by omega), fun q2 => ⟨vp_in_nI (by omega) (by omega), ?_⟩, fun q2 => sp_Md_passOf (w := 0) hMT hb MT (by omega) (by omega) (sp_Md_passOf (w := 0) hMT hb MT (by omega) (by omega) ?_)⟩⟩
          · have t : (A k || anB g.f (hdN g.n g.f A) (tchN g.n (g.f k % 8)) o) = true := by
              cases e : (A k || anB g.f (hdN g.n g.f A) (tchN g.n (g.f k % 8)) o)
              · rw [VK, e] at q
                exact absurd rfl q
              · rfl
            rw [VK, t, hdN_eq]
            rw [Bool.or_eq_true] at t
            rcases t with t | t
            · rw [t]; rfl
            · obtain ⟨o', h1, h2⟩ := (anB_iff o).mp t
              rw [(anB_iff k).mpr ⟨o', by omega, h2⟩, Bool.or_true]
          · rw [VT o (by omega), bI_0] at q2
            have z : (A k || anB g.f (hdN g.n g.f A) (tchN g.n (g.f k % 8)) o) = false := (bI_0 _).mp (by rw [← VK]; exact q)
            rw [nar_0, nI_1]
            refine ih' (o + 1) _ (by omega) (FT.uI _ rfl) (fun i hi => ?_) (fun i h1 h2 => ?_) ?_
            · rw [uI_at, if_pos rfl, if_neg (by omega)]; exact VT i hi
            · rw [uI_at, if_pos rfl, if_neg (by omega)]; exact VT2 i h1 h2
            · rw [uI_at, if_pos rfl, if_pos rfl, anB_s, q2, Bool.false_and, Bool.or_false, z]
              rfl
          · have q2 : hdN g.n g.f A o = true := by
              cases e : hdN g.n g.f A o
              · rw [VT o (by omega), e] at q2
                exact absurd rfl q2
              · rfl
            have z : (A k || anB g.f (hdN g.n g.f A) (tchN g.n (g.f k % 8)) o) = false := (bI_0 _).mp (by rw [← VK]; exact q)
            show Sp l m_Md_isTouching _ 0 0 [.ref 114, .int (nI 0), .int (nI (g.f o % 8)), .int (nI (g.f k % 8))] sh T _
            have up : ∀ (v : Int32) (b : Bool), v = bI b → tchN g.n (g.f o % 8) (g.f k % 8) = b → AW l m_Md_laysHeld (d + 1 + 1 + 1) 0 0 (gI sh P) 0 0 16 [.ref 114, .int (nI (ctB (hdN g.n g.f A) k)), .int (nI k), .int (nI o + 1)] [] sh (aw_uI T 124 k v) := by
              intro v b hv hbt
              rw [nI_1]
              refine ih' (o + 1) _ (by omega) (FT.uI _ rfl) (fun i hi => ?_) (fun i h1 h2 => ?_) ?_
              · rw [uI_at, if_pos rfl, if_neg (by omega)]; exact VT i hi
              · rw [uI_at, if_pos rfl, if_neg (by omega)]; exact VT2 i h1 h2
              · rw [uI_at, if_pos rfl, if_pos rfl, anB_s, q2, Bool.true_and, ← Bool.or_assoc, z, Bool.false_or, tch_sym, hbt, hv]
            refine sp_Md_isTouching (s := 0) hMT (by omega) hn n2 (by omega) (by omega) MT.1 (fun ht => ⟨fun q => absurd q (by decide), fun _ => ⟨vp_in_nI (by omega) (by omega), ?_⟩⟩) (fun ht => ⟨fun _ => ⟨vp_in_nI (by omega) (by omega), ?_⟩, fun q => absurd rfl q⟩)
            · rw [nar_1]
              exact up 1 true rfl ht
            · rw [nar_0]
              exact up 0 false rfl ht
      refine inner k 0 S' (by omega) F V (fun i h1 h2 => V2 i (by omega) h2) ?_
      rw [V2 k (Nat.le_refl _) (by omega)]
      show _ = bI (A k || false)
      rw [Bool.or_false]
  exact key g.m 0 S (by omega) (FrI.refl _ _) (fun i hi => absurd hi (Nat.not_lt_zero i)) (fun i _ hi => hA i hi)
end MG
