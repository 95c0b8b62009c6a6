/-! drift -/
def bhN (n p g : Nat) : Nat := if p = g then nx n g else if p = nx n g then g else p
def smN (F : Nat → Nat) : Nat → Nat
  | 0 => 0
  | k + 1 => smN F k + F k
theorem sm_s (F : Nat → Nat) (k : Nat) : smN F (k + 1) = smN F k + F k := rfl
theorem sm_add (F G : Nat → Nat) : ∀ k, smN (fun i => F i + G i) k = smN F k + smN G k := by
  intro k
  induction k with
  | zero => rfl
  | succ k ih =>
    rw [sm_s, sm_s, sm_s, ih]
    omega
theorem sm_zero : ∀ k, smN (fun _ => 0) k = 0 := by
  intro k
  induction k with
  | zero => rfl
  | succ k ih => rw [sm_s, ih]
theorem sm_swap (F : Nat → Nat → Nat) (m : Nat) : ∀ n, smN (fun p => smN (fun g => F p g) m) n = smN (fun g => smN (fun p => F p g) n) m := by
  intro n
  induction n with
  | zero => exact (sm_zero m).symm
  | succ n ih =>
    rw [sm_s, ih]
    exact (sm_add _ _ m).symm
theorem sm_le {F : Nat → Nat} {B : Nat} (h : ∀ i, F i ≤ B) : ∀ k, smN F k ≤ k * B := by
  intro k
  induction k with
  | zero => exact Nat.zero_le _
  | succ k ih =>
    rw [sm_s, Nat.succ_mul]
    have := h k
    omega
def drF (n : Nat) (w : Nat → Nat) (q p g : Nat) : Nat := if bhN n p g = q then w p else 0
/-- the ways behind one pass more -/
def drS (n : Nat) (w : Nat → Nat) (q : Nat) : Nat := smN (fun p => smN (fun g => drF n w q p g) (gpN n)) n
def drN (n from0 : Nat) : Nat → Nat → Nat
  | 0 => fun q => if q = from0 then 1 else 0
  | k + 1 => drS n (drN n from0 k)
theorem dr_le {n from0 : Nat} (hn : n ≤ 7) : ∀ k q, drN n from0 k q ≤ 49 ^ k := by
  intro k
  have hgp := gp_le n
  induction k with
  | zero =>
    intro q
    show (if q = from0 then 1 else 0) ≤ 1
    split <;> omega
  | succ k ih =>
    intro q
    show drS n (drN n from0 k) q ≤ _
    unfold drS
    have h1 : ∀ p, smN (fun g => drF n (drN n from0 k) q p g) (gpN n) ≤ 7 * 49 ^ k := fun p => Nat.le_trans (sm_le (B := 49 ^ k) (fun g => by
      unfold drF
      split
      · exact ih p
      · exact Nat.zero_le _) _) (Nat.mul_le_mul (by omega) (Nat.le_refl _))
    have h2 := sm_le h1 n
    have h3 : n * (7 * 49 ^ k) ≤ 7 * (7 * 49 ^ k) := Nat.mul_le_mul hn (Nat.le_refl _)
    rw [Nat.pow_succ]
    omega
theorem bh_lt {n p g : Nat} (hp : p < n) (hg : g < gpN n) : bhN n p g < n := by
  have h2 := gp_2 hg
  have := gp_le n
  unfold bhN
  split
  · exact nx_lt (by omega)
  · split <;> omega
theorem sp_placeBehind {l : Launch} {d : Nat} {sh : aw_SH} {S : aw_S} {P : Int32 → aw_S → Prop} {a n p g : Nat} (sa : sh[a]? = some (0, 2)) (hn : n ≤ 7) (hp : p < n) (hg : g < gpN n) (h0 : S.1 a 0 = nI n) (h : P (nI (bhN n p g)) S) : Sp l m_Gr_placeBehind (d + 1 + 1) 0 0 [.ref a, .int (nI p), .int (nI g)] sh S (gI sh P) := by
  have h2 := gp_2 hg
  have h3 := gp_le n
  have hx := nx_lt (n := n) (p := g) (by omega)
  unfold bhN at h
  refine e_Gr_placeBehind sa ⟨fun q => sp_Gr_nextPlace sa hn (by omega) h0 ⟨fun q2 => ?_, fun q2 => ?_⟩, fun q => sp_Gr_nextPlace sa hn hp h0 ?_⟩
  · rw [if_neg (fun z => q (by rw [z])), if_neg (fun z => q2 (by rw [z]))] at h
    exact h
  · rw [if_neg (fun z => q (by rw [z])), if_pos ((nI_inj (by omega) (by omega)).mp q2)] at h
    exact h
  · have e := (nI_inj (by omega) (by omega)).mp q
    rw [if_pos e] at h
    rw [e]
    exact h
theorem cpl_at (S : aw_S) (k1 k2 : Nat) (sp dp n : Int32) (c i : Nat) : (aw_cpl S k1 k2 sp dp n).2.1 c i = if c = k2 then va_cpy (S.2.1 k1) (S.2.1 k2) sp.toNatClampNeg dp.toNatClampNeg n.toNatClampNeg i else S.2.1 c i := by
  by_cases h : c = k2
  · subst h; simp [aw_cpl, va_up]
  · simp [aw_cpl, va_up, h]
theorem p7 {G k : Nat} (hG : G ≤ 7) (h0 : 0 < G ∨ k = 0) (hk : k ≤ 5) : 0 < G ^ k ∧ G ^ k ≤ 2 ^ 40 := by
  have h1 : G ^ k ≤ 7 ^ k := Nat.pow_le_pow_left hG k
  have h2 : 7 ^ k ≤ 7 ^ 5 := Nat.pow_le_pow_right (n := 7) (by decide) hk
  refine ⟨?_, by omega⟩
  rcases h0 with h0 | h0
  · exact Nat.pow_pos h0
  · rw [h0, Nat.pow_zero]
    exact Nat.one_pos
theorem p49 {k : Nat} (hk : k ≤ 5) : 49 ^ k ≤ 2 ^ 40 := by
  have h2 : 49 ^ k ≤ 49 ^ 5 := Nat.pow_le_pow_right (n := 49) (by decide) hk
  omega
section DR
variable {l : Launch} {d : Nat} {S : aw_S}
theorem sp_setDrift {P : aw_S → Prop} {a n fr to k : Nat} (hR : RefsOk S.2.2) (sa : sh0[a]? = some (0, 2)) (h0 : S.1 a 0 = nI n) (hn : n ≤ 7) (hf : fr < n) (ht : to < n) (hk : k ≤ 5) (hG : 0 < gpN n ∨ k = 0) (h : ∀ S', FrL (fun c _ => c = 112 ∨ c = 113) S S' → P (aw_uL (aw_uL S' 111 0 (lN (drN n fr k to / Nat.gcd (drN n fr k to) (gpN n ^ k)))) 111 1 (lN (gpN n ^ k / Nat.gcd (drN n fr k to) (gpN n ^ k))))) : Sp l m_Ch_setDrift (d + 1 + 1 + 1) 0 0 [.ref 111, .ref a, .int (nI fr), .int (nI to), .int (nI k)] sh0 S (gV sh0 P) := by
  have r2 : S.2.2 111 2 = some 112 := hR.at (by decide)
  have r3 : S.2.2 111 3 = some 113 := hR.at (by decide)
  have hgp := gp_le n
  refine e_Ch_setDrift rfl ⟨112, r2, sp_fillL (n := 13) rfl (by omega) ⟨112, r2, 13, rfl, vp_in_nI (by omega) (by omega), sa, sp_Gr_gaps sa hn h0 ?_⟩⟩
  have key : ∀ j i S', i + j = k → FrL (fun c _ => c = 112 ∨ c = 113) S S' → (∀ x, x < n → S'.2.1 112 x = lN (drN n fr i x)) → AW l m_Ch_setDrift (d + 1 + 1 + 1) 0 0 (gV sh0 P) 0 0 27 [.ref 111, .ref a, .null, .int (nI to), .int (nI k), .long (lN (gpN n ^ i)), .null, .int (nI (gpN n)), .int (nI i), .null, .null] [] sh0 S' := by
    intro j
    induction j with
    | zero =>
      intro i S' hi F V
      have hi : i = k := hi
      subst hi
      have q := p7 (G := gpN n) (by omega) hG hk
      have q2 := dr_le (from0 := fr) hn i to
      have q3 := p49 hk
      refine s_Ch_setDrift_27 rfl ⟨fun _ => ⟨112, by rw [F.2.2]; exact r2, 13, rfl, vp_in_nI (by omega) (by omega), ?_⟩, fun q => absurd (nI_le (Nat.le_refl _) (by omega)) q⟩
      rw [nI_clamp (by omega), V to ht]
      exact sp_Ch_set rfl (by omega) (by omega) q.1 (h S' F)
    | succ j ih =>
      intro i S' hi F V
      refine s_Ch_setDrift_27 rfl ⟨fun q => absurd q (nI_ge (by omega) (by omega)), fun _ => ⟨113, by rw [F.2.2]; exact r3, sp_fillL (n := 13) rfl (by omega) ?_⟩⟩
      -- the two inner rounds
      have inner : ∀ j' p T, p + j' = n → FrL (fun c _ => c = 112 ∨ c = 113) S T → (∀ x, x < n → T.2.1 112 x = lN (drN n fr i x)) → (∀ x, x < n → T.2.1 113 x = lN (smN (fun p => smN (fun g => drF n (drN n fr i) x p g) (gpN n)) p)) → AW l m_Ch_setDrift (d + 1 + 1 + 1) 0 0 (gV sh0 P) 0 0 45 [.ref 111, .ref a, .null, .int (nI to), .int (nI k), .long (lN (gpN n ^ i)), .null, .int (nI (gpN n)), .int (nI i), .int (nI p), .null] [] sh0 T := by
        intro j'
        induction j' with
        | zero =>
          intro p T hp FT V1 V2
          have hp : p = n := hp
          subst hp
          refine s_Ch_setDrift_45 rfl ⟨sa, ?_⟩
          rw [FT.2.1, h0]
          refine ⟨fun _ => ⟨113, by rw [FT.2.2]; exact r3, 112, by rw [FT.2.2]; exact r2, 13, rfl, 13, rfl, by decide, by decide, nI_pos (by omega), ?_, ?_, ?_⟩, fun q => absurd (nI_le (Nat.le_refl _) (by omega)) q⟩
          · rw [nI_clamp (by omega)]
            show 0 + p ≤ 13
            omega
          · rw [nI_clamp (by omega)]
            show 0 + p ≤ 13
            omega
          · rw [nI_l (by omega), lN_mul, ← Nat.pow_succ, nI_1]
            refine ih (i + 1) _ (by omega) ⟨fun c x q => ?_, FT.2.1, FT.2.2⟩ (fun x hx => ?_)
            · rw [cpl_at, if_neg (by omega)]
              exact FT.1 c x q
            · rw [cpl_at, if_pos rfl, nI_clamp (by omega)]
              show va_cpy (T.2.1 113) (T.2.1 112) 0 0 p x = _
              rw [pk_cpy_in (by omega) (by omega), show 0 + (x - 0) = x by omega, V2 x hx]
              rfl
        | succ j' ih' =>
          intro p T hp FT V1 V2
          refine s_Ch_setDrift_45 rfl ⟨sa, ?_⟩
          rw [FT.2.1, h0]
          refine ⟨fun q => absurd q (nI_ge (by omega) (by omega)), fun _ => ?_⟩
          have inn : ∀ j'' g U, g + j'' = gpN n → FrL (fun c _ => c = 112 ∨ c = 113) S U → (∀ x, x < n → U.2.1 112 x = lN (drN n fr i x)) → (∀ x, x < n → U.2.1 113 x = lN (smN (fun p => smN (fun g => drF n (drN n fr i) x p g) (gpN n)) p + smN (fun g => drF n (drN n fr i) x p g) g)) → AW l m_Ch_setDrift (d + 1 + 1 + 1) 0 0 (gV sh0 P) 0 0 57 [.ref 111, .ref a, .null, .int (nI to), .int (nI k), .long (lN (gpN n ^ i)), .null, .int (nI (gpN n)), .int (nI i), .int (nI p), .int (nI g)] [] sh0 U := by
            intro j''
            induction j'' with
            | zero =>
              intro g U hg FU W1 W2
              have hg : g = gpN n := hg
              subst hg
              refine s_Ch_setDrift_57 rfl ⟨fun _ => ?_, fun q => absurd (nI_le (Nat.le_refl _) (by omega)) q⟩
              rw [nI_1]
              exact ih' (p + 1) U (by omega) FU W1 W2
            | succ j'' ih'' =>
              intro g U hg FU W1 W2
              have hb := bh_lt (n := n) (p := p) (g := g) (by omega) (by omega)
              refine s_Ch_setDrift_57 rfl ⟨fun q => absurd q (nI_ge (by omega) (by omega)), fun _ => ⟨113, by rw [FU.2.2]; exact r3, sa, sp_placeBehind sa hn (by omega) (by omega) (by rw [FU.2.1]; exact h0) ⟨13, rfl, vp_in_nI (by omega) (by omega), 112, by rw [FU.2.2]; exact r2, 13, rfl, vp_in_nI (by omega) (by omega), vp_in_nI (by omega) (by omega), ?_⟩⟩⟩
              rw [nI_clamp (by omega), nI_clamp (by omega), W1 p (by omega), W2 _ hb, lN_add, nI_1]
              refine ih'' (g + 1) _ (by omega) (FU.uL _ (Or.inr rfl)) (fun x hx => ?_) (fun x hx => ?_)
              · rw [uL_ne _ _ _ (by omega)]
                exact W1 x hx
              · rw [uL_at, if_pos rfl, sm_s]
                by_cases e : x = bhN n p g
                · rw [if_pos e, ← e]
                  show _ = lN (_ + (_ + (if bhN n p g = x then drN n fr i p else 0)))
                  rw [if_pos e.symm, Nat.add_assoc]
                · rw [if_neg e, W2 x hx]
                  show _ = lN (_ + (_ + (if bhN n p g = x then drN n fr i p else 0)))
                  rw [if_neg (fun z => e z.symm)]
                  rfl
          refine inn (gpN n) 0 T (by omega) FT V1 (fun x hx => ?_)
          rw [V2 x hx]
          rfl
      refine inner n 0 _ (by omega) (F.wL _ (fun _ => Or.inr rfl)) (fun x hx => ?_) (fun x hx => ?_)
      · rw [wL_ne _ _ (by omega)]
        exact V x hx
      · rw [wL_self, if_pos (by omega)]
        rfl
  refine key k 0 _ (by omega) (((FrL.refl (fun c _ => c = 112 ∨ c = 113) S).wL _ (fun _ => Or.inl rfl)).uL _ (Or.inl rfl)) (fun x hx => ?_)
  rw [nI_clamp (by omega), uL_at, if_pos rfl, wL_self]
  show _ = lN (if x = fr then 1 else 0)
  by_cases e : x = fr
  · rw [if_pos e, if_pos e]
    rfl
  · rw [if_neg e, if_neg e, if_pos (by omega)]
    rfl
theorem sp_Md_drifts {P : Int32 → aw_S → Prop} {g : GM} {fr to k : Nat} (hR : RefsOk S.2.2) (hb : bdG g) (H : MdG S.1 0 g) (hf : fr < g.n) (ht : to < g.n) (hk : k ≤ 5) (hG : 0 < gpN g.n ∨ k = 0) (h : ∀ S', FrL (fun c _ => 120 ≤ c) S S' → P 1 (aw_uI (aw_uL (aw_uL S' 114 3 (lN (drN g.n fr k to / Nat.gcd (drN g.n fr k to) (gpN g.n ^ k)))) 114 4 (lN (gpN g.n ^ k / Nat.gcd (drN g.n fr k to) (gpN g.n ^ k)))) 114 2 0)) : AW l m_Md_drift (d + 1 + 1 + 1) 0 0 (gI sh0 P) 0 0 67 [.ref 114, .int (nI (g.std fr)), .int (nI to), .int (nI k), .int (nI g.n), .long 1, .null, .int 0, .null, .null, .null] [] sh0 S := by
  have r43 : S.2.2 114 43 = some 138 := hR.at (by decide)
  have r44 : S.2.2 114 44 = some 139 := hR.at (by decide)
  have hM := MdS.mk0 hR
  have hn : g.n ≤ 7 := hb.1
  have hgp := gp_le g.n
  have key : ∀ j i S', i + j = k → FrL (fun c _ => 120 ≤ c) S S' → (∀ x, x < g.n → S'.2.1 138 x = lN (drN g.n fr i x)) → AW l m_Md_drift (d + 1 + 1 + 1) 0 0 (gI sh0 P) 0 0 105 [.ref 114, .null, .int (nI to), .int (nI k), .int (nI g.n), .long (lN (gpN g.n ^ i)), .null, .int (nI i), .null, .null, .null] [] sh0 S' := by
    intro j
    induction j with
    | zero =>
      intro i S' hi F V
      have hi : i = k := hi
      subst hi
      have q := p7 (G := gpN g.n) (by omega) hG hk
      have q2 := dr_le (from0 := fr) hn i to
      have q3 := p49 hk
      refine s_Md_drift_105 rfl ⟨fun _ => ⟨138, by rw [F.2.2]; exact r43, 7, rfl, vp_in_nI (by omega) (by omega), ?_⟩, fun q => absurd (nI_le (Nat.le_refl _) (by omega)) q⟩
      rw [nI_clamp (by omega), V to ht]
      exact sp_tellsBy (by omega) (by omega) q.1 ⟨Or.inr rfl, h S' F⟩
    | succ j ih =>
      intro i S' hi F V
      refine s_Md_drift_105 rfl ⟨fun q => absurd q (nI_ge (by omega) (by omega)), fun _ => ?_⟩
      -- copying back
      have back : ∀ j' p T, p + j' = g.n → FrL (fun c _ => 120 ≤ c) S T → (∀ x, x < g.n → T.2.1 139 x = lN (drN g.n fr (i + 1) x)) → (∀ x, x < p → T.2.1 138 x = lN (drN g.n fr (i + 1) x)) → AW l m_Md_drift (d + 1 + 1 + 1) 0 0 (gI sh0 P) 0 0 223 [.ref 114, .null, .int (nI to), .int (nI k), .int (nI g.n), .long (lN (gpN g.n ^ i)), .null, .int (nI i), .int (nI p), .null, .null] [] sh0 T := by
        intro j'
        induction j' with
        | zero =>
          intro p T hp FT V1 V2
          have hp : p = g.n := hp
          subst hp
          refine s_Md_drift_223 rfl ⟨fun _ => sp_Md_gapsOf (s := 0) (by rw [FT.2.2]; exact hM) (by omega) hn (by rw [FT.2.1]; exact H.1) ?_, fun q => absurd (nI_le (Nat.le_refl _) (by omega)) q⟩
          rw [nI_l (by omega), lN_mul, ← Nat.pow_succ, nI_1]
          exact ih (i + 1) T (by omega) FT V2
        | succ j' ih' =>
          intro p T hp FT V1 V2
          refine s_Md_drift_223 rfl ⟨fun q => absurd q (nI_ge (by omega) (by omega)), fun _ => ⟨138, by rw [FT.2.2]; exact r43, 139, by rw [FT.2.2]; exact r44, 7, rfl, vp_in_nI (by omega) (by omega), 7, rfl, vp_in_nI (by omega) (by omega), ?_⟩⟩
          rw [nI_clamp (by omega), V1 p (by omega), nI_1]
          refine ih' (p + 1) _ (by omega) (FT.uL _ (by omega)) (fun x hx => ?_) (fun x hx => ?_)
          · rw [uL_ne _ _ _ (by omega)]
            exact V1 x hx
          · rw [uL_at, if_pos rfl]
            by_cases e : x = p
            · rw [if_pos e, e]
            · rw [if_neg e]
              exact V2 x (by omega)
      have inner : ∀ j' w T, w + j' = gpN g.n → FrL (fun c _ => 120 ≤ c) S T → (∀ x, x < g.n → T.2.1 138 x = lN (drN g.n fr i x)) → (∀ x, x < g.n → T.2.1 139 x = lN (smN (fun w => smN (fun p => drF g.n (drN g.n fr i) x p w) g.n) w)) → AW l m_Md_drift (d + 1 + 1 + 1) 0 0 (gI sh0 P) 0 0 138 [.ref 114, .null, .int (nI to), .int (nI k), .int (nI g.n), .long (lN (gpN g.n ^ i)), .null, .int (nI i), .int (nI w), .null, .null] [] sh0 T := by
        intro j'
        induction j' with
        | zero =>
          intro w T hw FT V1 V2
          have hw : w = gpN g.n := hw
          subst hw
          refine s_Md_drift_138 rfl (sp_Md_gapsOf (s := 0) (by rw [FT.2.2]; exact hM) (by omega) hn (by rw [FT.2.1]; exact H.1) ⟨fun _ => ?_, fun q => absurd (nI_le (Nat.le_refl _) (by omega)) q⟩)
          refine back g.n 0 T (by omega) FT (fun x hx => ?_) (fun x hx => absurd hx (Nat.not_lt_zero x))
          rw [V2 x hx]
          show _ = lN (drS g.n (drN g.n fr i) x)
          unfold drS
          rw [sm_swap]
        | succ j' ih' =>
          intro w T hw FT V1 V2
          have n2 := gp_2 (show w < gpN g.n by omega)
          have hx' := nx_lt (n := g.n) (p := w) (by omega)
          refine s_Md_drift_138 rfl (sp_Md_gapsOf (s := 0) (by rw [FT.2.2]; exact hM) (by omega) hn (by rw [FT.2.1]; exact H.1) ⟨fun q => absurd q (nI_ge (by omega) (by omega)), fun _ => ⟨nI_ne0 (by omega) (by omega), ?_⟩⟩)
          rw [nI_1, pk_rem (by omega) (by omega) (by omega)]
          have inn : ∀ j'' p U, p + j'' = g.n → FrL (fun c _ => 120 ≤ c) S U → (∀ x, x < g.n → U.2.1 138 x = lN (drN g.n fr i x)) → (∀ x, x < g.n → U.2.1 139 x = lN (smN (fun w => smN (fun p => drF g.n (drN g.n fr i) x p w) g.n) w + smN (fun p => drF g.n (drN g.n fr i) x p w) p)) → AW l m_Md_drift (d + 1 + 1 + 1) 0 0 (gI sh0 P) 0 0 160 [.ref 114, .null, .int (nI to), .int (nI k), .int (nI g.n), .long (lN (gpN g.n ^ i)), .null, .int (nI i), .int (nI w), .int (nI (nx g.n w)), .int (nI p)] [] sh0 U := by
            intro j''
            induction j'' with
            | zero =>
              intro p U hp FU W1 W2
              have hp : p = g.n := hp
              subst hp
              refine s_Md_drift_160 rfl ⟨fun _ => ?_, fun q => absurd (nI_le (Nat.le_refl _) (by omega)) q⟩
              rw [nI_1]
              exact ih' (w + 1) U (by omega) FU W1 W2
            | succ j'' ih'' =>
              intro p U hp FU W1 W2
              have hb2 := bh_lt (n := g.n) (p := p) (g := w) (by omega) (by omega)
              have step : ∀ q : Nat, bhN g.n p w = q → AW l m_Md_drift (d + 1 + 1 + 1) 0 0 (gI sh0 P) 0 0 160 [.ref 114, .null, .int (nI to), .int (nI k), .int (nI g.n), .long (lN (gpN g.n ^ i)), .null, .int (nI i), .int (nI w), .int (nI (nx g.n w)), .int (nI p + 1)] [] sh0 (aw_uL U 139 (nI q).toNatClampNeg (U.2.1 139 (nI q).toNatClampNeg + U.2.1 138 (nI p).toNatClampNeg)) := by
                intro q hq
                subst hq
                rw [nI_clamp (by omega), nI_clamp (by omega), W1 p (by omega), W2 _ hb2, lN_add, nI_1]
                refine ih'' (p + 1) _ (by omega) (FU.uL _ (by omega)) (fun x hx => ?_) (fun x hx => ?_)
                · rw [uL_ne _ _ _ (by omega)]
                  exact W1 x hx
                · rw [uL_at, if_pos rfl, sm_s]
                  by_cases e : x = bhN g.n p w
                  · rw [if_pos e, ← e]
                    show _ = lN (_ + (_ + (if bhN g.n p w = x then drN g.n fr i p else 0)))
                    rw [if_pos e.symm, Nat.add_assoc]
                  · rw [if_neg e, W2 x hx]
                    show _ = lN (_ + (_ + (if bhN g.n p w = x then drN g.n fr i p else 0)))
                    rw [if_neg (fun z => e z.symm)]
                    rfl
              have i10 : ∀ {x : Nat}, nI p = nI x → x < 2 ^ 31 → p = x := fun z h => (nI_inj (by omega) h).mp z
              refine s_Md_drift_160 rfl ⟨fun q => absurd q (nI_ge (by omega) (by omega)), fun _ => ⟨139, by rw [FU.2.2]; exact r44, fun q => ⟨fun q2 => ⟨7, rfl, vp_in_nI (by omega) (by omega), 138, by rw [FU.2.2]; exact r43, 7, rfl, vp_in_nI (by omega) (by omega), vp_in_nI (by omega) (by omega), step p ?_⟩, fun q2 => ⟨7, rfl, vp_in_nI (by omega) (by omega), 138, by rw [FU.2.2]; exact r43, 7, rfl, vp_in_nI (by omega) (by omega), vp_in_nI (by omega) (by omega), step w ?_⟩⟩, fun q => ⟨7, rfl, vp_in_nI (by omega) (by omega), 138, by rw [FU.2.2]; exact r43, 7, rfl, vp_in_nI (by omega) (by omega), vp_in_nI (by omega) (by omega), step (nx g.n w) ?_⟩⟩⟩
              · unfold bhN
                rw [if_neg (fun z => q (by rw [z])), if_neg (fun z => q2 (by rw [z]))]
              · unfold bhN
                rw [if_neg (fun z => q (by rw [z])), if_pos (i10 q2 (by omega))]
              · unfold bhN
                rw [if_pos (i10 q (by omega))]
          refine inn g.n 0 T (by omega) FT V1 (fun x hx => ?_)
          rw [V2 x hx]
          rfl
      have clr : ∀ j' p T, p + j' = g.n → FrL (fun c _ => 120 ≤ c) S T → (∀ x, x < g.n → T.2.1 138 x = lN (drN g.n fr i x)) → (∀ x, x < p → T.2.1 139 x = lN 0) → AW l m_Md_drift (d + 1 + 1 + 1) 0 0 (gI sh0 P) 0 0 114 [.ref 114, .null, .int (nI to), .int (nI k), .int (nI g.n), .long (lN (gpN g.n ^ i)), .null, .int (nI i), .int (nI p), .null, .null] [] sh0 T := by
        intro j'
        induction j' with
        | zero =>
          intro p T hp FT V1 V2
          have hp : p = g.n := hp
          subst hp
          exact s_Md_drift_114 rfl ⟨fun _ => inner (gpN g.n) 0 T (by omega) FT V1 V2, fun q => absurd (nI_le (Nat.le_refl _) (by omega)) q⟩
        | succ j' ih' =>
          intro p T hp FT V1 V2
          refine s_Md_drift_114 rfl ⟨fun q => absurd q (nI_ge (by omega) (by omega)), fun _ => ⟨139, by rw [FT.2.2]; exact r44, 7, rfl, vp_in_nI (by omega) (by omega), ?_⟩⟩
          rw [nI_clamp (by omega), nI_1]
          refine ih' (p + 1) _ (by omega) (FT.uL _ (by omega)) (fun x hx => ?_) (fun x hx => ?_)
          · rw [uL_ne _ _ _ (by omega)]
            exact V1 x hx
          · rw [uL_at, if_pos rfl]
            by_cases e : x = p
            · rw [if_pos e]
              rfl
            · rw [if_neg e]
              exact V2 x (by omega)
      exact clr g.n 0 S' (by omega) F V (fun x hx => absurd hx (Nat.not_lt_zero x))
  have init : ∀ j p S', p + j = g.n → FrL (fun c _ => 120 ≤ c) S S' → (∀ x, x < p → S'.2.1 138 x = lN (drN g.n fr 0 x)) → AW l m_Md_drift (d + 1 + 1 + 1) 0 0 (gI sh0 P) 0 0 67 [.ref 114, .int (nI (g.std fr)), .int (nI to), .int (nI k), .int (nI g.n), .long 1, .null, .int (nI p), .null, .null, .null] [] sh0 S' := by
    intro j
    induction j with
    | zero =>
      intro p S' hp F V
      have hp : p = g.n := hp
      subst hp
      refine s_Md_drift_67 rfl ⟨fun _ => ?_, fun q => absurd (nI_le (Nat.le_refl _) (by omega)) q⟩
      exact key k 0 S' (by omega) F V
    | succ j ih =>
      intro p S' hp F V
      have step : ∀ v : Int64, v = lN (drN g.n fr 0 p) → AW l m_Md_drift (d + 1 + 1 + 1) 0 0 (gI sh0 P) 0 0 67 [.ref 114, .int (nI (g.std fr)), .int (nI to), .int (nI k), .int (nI g.n), .long 1, .null, .int (nI p + 1), .null, .null, .null] [] sh0 (aw_uL S' 138 (nI p).toNatClampNeg v) := by
        intro v hv
        rw [nI_clamp (by omega), nI_1]
        refine ih (p + 1) _ (by omega) (F.uL _ (by omega)) (fun x hx => ?_)
        rw [uL_at, if_pos rfl]
        by_cases e : x = p
        · rw [if_pos e, hv, e]
        · rw [if_neg e]
          exact V x (by omega)
      refine s_Md_drift_67 rfl ⟨fun q => absurd q (nI_ge (by omega) (by omega)), fun _ => ⟨138, by rw [F.2.2]; exact r43, sp_Md_placeOf (by rw [F.2.2]; exact hM) hb (by rw [F.2.1]; exact H) hf ⟨fun q => ⟨7, rfl, vp_in_nI (by omega) (by omega), step 0 ?_⟩, fun q => ⟨7, rfl, vp_in_nI (by omega) (by omega), step 1 ?_⟩⟩⟩⟩
      · show _ = lN (if p = fr then 1 else 0)
        rw [if_neg (fun z => q (by rw [z]))]
        rfl
      · show _ = lN (if p = fr then 1 else 0)
        rw [if_pos ((nI_inj (by omega) (by omega)).mp q)]
        rfl
  exact init g.n 0 S (by omega) (FrL.refl _ _) (fun x hx => absurd hx (Nat.not_lt_zero x))
end DR
theorem ok_drift (l : Launch) : Ok_drift l 0 114 sh0 Inv := by
  intro S hI x y z
  obtain ⟨a, b, g, N⟩ := hI.now
  have hS := N.S hI.rf
  have hM := MdS.mk0 hI.rf
  obtain ⟨n1, n2, n3, n4, n5, n6, n7, n8, n9, n10⟩ := id N
  have hn : g.n ≤ 7 := n4.1
  have hgp := gp_le g.n
  have M := N.m3
  refine e_Mg_drift rfl (sp_Mg_isDancer (d := 197) n1 hS.sa hn n6.1 (fun c1 => ⟨fun q => absurd q (by decide), fun _ => sp_Mg_isPlace (d := 197) n1 hS.sa hn n6.1 (fun c2 => ⟨fun q => absurd q (by decide), fun _ => sp_isWithin ?_⟩) (fun c2 => ⟨fun _ => e_Mg_refuse rfl ⟨Or.inl rfl, e_Md_drift rfl (sp_Md_isDancer (d := 198) hM hn (M _).1 (fun _ => ⟨fun q => absurd q (by decide), fun _ => sp_Md_isDancer (d := 198) hM hn (M _).1 (fun q => absurd q c2) (fun _ => ⟨fun _ => sp_is1 (by decide) ⟨Or.inl rfl, rfl, hI.st rfl⟩, fun q => absurd rfl q⟩)⟩) (fun q => absurd c1 q))⟩, fun q => absurd rfl q⟩)⟩) (fun c1 => ⟨fun _ => e_Mg_refuse rfl ⟨Or.inl rfl, e_Md_drift rfl (sp_Md_isDancer (d := 198) hM hn (M _).1 (fun q => absurd q c1) (fun _ => ⟨fun _ => sp_is1 (by decide) ⟨Or.inl rfl, rfl, hI.st rfl⟩, fun q => absurd rfl q⟩))⟩, fun q => absurd rfl q⟩))
  obtain ⟨w, hw, rfl⟩ := id c1
  obtain ⟨to, hto, rfl⟩ := id c2
  obtain ⟨fr, hfr, rfl⟩ := std_inv n4 hw
  have refm : ∀ {T : aw_S} {X : Int32 → aw_S → Prop}, MdG T.1 0 g → MdS sh0 T.2.2 → ((0 ≤ z ∧ z ≤ 5) → ((z ≤ 0 → ∃ r17, T.2.2 114 0 = some r17 ∧ ∃ n19, sh0[r17]? = some (3, n19) ∧ vp_in 0 n19 ∧ AW l m_Md_drift 200 0 0 (gI sh0 X) 0 0 67 [.ref 114, .int (nI (g.std fr)), .int (nI to), .int z, .int (T.1 r17 (0 : Int32).toNatClampNeg), .long 1, .null, .int 0, .null, .null, .null] [] sh0 T) ∧ (¬ z ≤ 0 → Sp l m_Md_gapsOf 199 0 0 [.ref 114, .int 0] sh0 T (gI sh0 (fun x22 S21 => ((¬ x22 = 0 → ∃ r24, S21.2.2 114 0 = some r24 ∧ ∃ n26, sh0[r24]? = some (3, n26) ∧ vp_in 0 n26 ∧ AW l m_Md_drift 200 0 0 (gI sh0 X) 0 0 67 [.ref 114, .int (nI (g.std fr)), .int (nI to), .int z, .int (S21.1 r24 (0 : Int32).toNatClampNeg), .long 1, .null, .int 0, .null, .null, .null] [] sh0 S21) ∧ (x22 = 0 → Sp l m_Md_is 199 0 0 [.ref 114, .int 6] sh0 S21 (gI sh0 (fun x29 S28 => ((x29 = 0 ∨ x29 = 1) ∧ X x29 S28)))))))))) ∧ (¬ (0 ≤ z ∧ z ≤ 5) → Sp l m_Md_is 199 0 0 [.ref 114, .int 1] sh0 T (gI sh0 (fun x32 S31 => ((x32 = 0 ∨ x32 = 1) ∧ X x32 S31)))) → Sp l m_Md_drift 200 0 0 [.ref 114, .int (nI (g.std fr)), .int (nI to), .int z] sh0 T (gI sh0 X) := by
    intro T X MT hMT h
    exact e_Md_drift rfl (sp_Md_isDancer (d := 198) hMT hn MT.1 (fun _ => ⟨fun q => absurd q (by decide), fun _ => sp_Md_isDancer (d := 198) hMT hn MT.1 (fun _ => ⟨fun q => absurd q (by decide), fun _ => sp_isFrom (d := 198) (y := 0) (z := 5) (by decide) (by decide) (fun c => ⟨fun _ => h.1 c, fun q => absurd q (by decide)⟩) (fun c => ⟨fun q => absurd rfl q, fun _ => h.2 c⟩)⟩) (fun q => absurd c2 q)⟩) (fun q => absurd c1 q))
  by_cases c3 : 0 ≤ z ∧ z ≤ 5
  · rw [if_pos c3]
    obtain ⟨k, hk, rfl⟩ := le_ge (n := 5) (by decide) c3
    refine ⟨fun _ => ⟨a, n1, hS.sa, sp_Gr_gaps (d := 198) hS.sa hn n6.1 ?_⟩, fun q => absurd q (by decide)⟩
    have go : (0 < gpN g.n ∨ k = 0) → ∃ r21, S.2.2 0 18 = some r21 ∧ ∃ r22, S.2.2 0 6 = some r22 ∧ sh0[r22]? = some (0, 2) ∧ ∃ r24, S.2.2 r22 7 = some r24 ∧ ∃ n26, sh0[r24]? = some (3, n26) ∧ vp_in (nI (g.std fr)) n26 ∧ sh0[r21]? = some (0, 10) ∧ Sp l m_Ch_setDrift 199 0 0 [.ref r21, .ref r22, .int (S.1 r24 (nI (g.std fr)).toNatClampNeg), .int (nI to), .int (nI k)] sh0 S (gV sh0 (fun S29 => Sp l m_Mg_grant 199 0 0 [.ref 0] sh0 S29 (gI sh0 (fun x31 S30 => ((x31 = 0 ∨ x31 = 1) ∧ Sp l m_Md_drift 200 0 0 [.ref 114, .int (nI (g.std fr)), .int (nI to), .int (nI k)] sh0 S30 (gI sh0 (fun y S2 => x31 = y ∧ Inv S2))))))) := by
      intro hG
      refine ⟨111, hI.rf.at (by decide), a, n1, hS.sa, a + 3, hS.r7, 7, hS.s3, vp_in_nI (by omega) (by omega), rfl, ?_⟩
      rw [nI_clamp (by omega), (n6.2.2.2.2.2.2.1 fr hfr).2]
      refine sp_setDrift (d := 196) hI.rf hS.sa n6.1 hn hfr hto hk hG (fun S1 F1 => e_Mg_grant rfl ⟨Or.inr rfl, ?_⟩)
      have M1 : ∀ p q, MdG (aw_uI (aw_uL (aw_uL S1 111 0 p) 111 1 q) 0 3 0).1 0 g := fun p q => n7.fr n4.1 n4.2.2.2.2.1 (fun j _ => by rw [uI_ne _ _ _ (by omega), uL_I, uL_I, F1.2.1])
      have hM1 : MdS sh0 S1.2.2 := by rw [F1.2.2]; exact hM
      have fin := fun p q (h0 : 0 < gpN g.n ∨ k = 0) => sp_Md_drifts (l := l) (d := 197) (P := fun y S2 => 1 = y ∧ Inv S2) (S := aw_uI (aw_uL (aw_uL S1 111 0 p) 111 1 q) 0 3 0) (by rw [uI_R, uL_R, uL_R, F1.2.2]; exact hI.rf) n4 (M1 p q) hfr hto hk h0
      refine refm (M1 _ _) hM1 ⟨fun _ => ⟨fun q => ⟨115, hM1.2.1, 3864, rfl, vp_in_nI (n := 0) (by omega) (by omega), ?_⟩, fun q => sp_Md_gapsOf (s := 0) (d := 198) hM1 (by omega) hn (M1 _ _).1 ⟨fun q2 => ⟨115, hM1.2.1, 3864, rfl, vp_in_nI (n := 0) (by omega) (by omega), ?_⟩, fun q2 => absurd hG (fun z => ?_)⟩⟩, fun q => absurd c3 q⟩
      · rw [show (aw_uI (aw_uL (aw_uL S1 111 0 _) 111 1 _) 0 3 0).1 115 (0 : Int32).toNatClampNeg = nI g.n from (M1 _ _).1]
        exact fin _ _ hG (fun S2 F2 => ⟨rfl, hI.frq N F1 F2⟩)
      · rw [show (aw_uI (aw_uL (aw_uL S1 111 0 _) 111 1 _) 0 3 0).1 115 (0 : Int32).toNatClampNeg = nI g.n from (M1 _ _).1]
        exact fin _ _ hG (fun S2 F2 => ⟨rfl, hI.frq N F1 F2⟩)
      · have e0 : gpN g.n = 0 := (nI_inj (b := 0) (by omega) (by omega)).mp q2
        have : k = 0 := by omega
        exact q (by rw [this]; exact Int32.le_refl 0)
    refine ⟨fun q => go (Or.inl (Nat.pos_of_ne_zero (fun z => q (by rw [z]; rfl)))), fun q => ⟨fun q2 => go (Or.inr ?_), fun q2 => e_Mg_refuse rfl ⟨Or.inl rfl, refm (M 6) hM ⟨fun _ => ⟨fun z => absurd z q2, fun _ => sp_Md_gapsOf (s := 0) (d := 198) hM (by omega) hn (M 6).1 ⟨fun z => absurd q z, fun _ => sp_is1 (by decide) ⟨Or.inl rfl, rfl, hI.st rfl⟩⟩⟩, fun q => absurd c3 q⟩⟩⟩⟩
    have := (nI_leI (b := 0) (by omega) (by omega)).mp q2
    omega
  · rw [if_neg c3]
    exact ⟨fun q => absurd rfl q, fun _ => e_Mg_refuse rfl ⟨Or.inl rfl, refm (M 1) hM ⟨fun q => absurd q c3, fun _ => sp_is1 (by decide) ⟨Or.inl rfl, rfl, hI.st rfl⟩⟩⟩⟩
