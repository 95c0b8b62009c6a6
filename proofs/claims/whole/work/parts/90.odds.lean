/-! slipped -/
def FrL (X : Nat → Nat → Prop) (S S' : aw_S) : Prop := (∀ k j, ¬ X k j → S'.2.1 k j = S.2.1 k j) ∧ S'.1 = S.1 ∧ S'.2.2 = S.2.2
theorem FrL.refl (X : Nat → Nat → Prop) (S : aw_S) : FrL X S S := ⟨fun _ _ _ => rfl, rfl, rfl⟩
theorem FrL.trans {X : Nat → Nat → Prop} {S S' S'' : aw_S} (h : FrL X S S') (h' : FrL X S' S'') : FrL X S S'' := ⟨fun k j q => (h'.1 k j q).trans (h.1 k j q), h'.2.1.trans h.2.1, h'.2.2.trans h.2.2⟩
theorem FrL.mono {X Y : Nat → Nat → Prop} {S S' : aw_S} (h : FrL X S S') (hxy : ∀ k j, X k j → Y k j) : FrL Y S S' := ⟨fun k j q => h.1 k j (fun z => q (hxy k j z)), h.2⟩
theorem FrL.uL {X : Nat → Nat → Prop} {S S' : aw_S} (h : FrL X S S') {k j : Nat} (v : Int64) (hx : X k j) : FrL X S (aw_uL S' k j v) := by
  refine ⟨fun c i q => ?_, h.2⟩
  rw [uL_at]
  by_cases e : c = k
  · subst e
    rw [if_pos rfl, if_neg (fun z => q (by rw [z]; exact hx))]
    exact h.1 c i q
  · rw [if_neg e]
    exact h.1 c i q
theorem FrL.wL {X : Nat → Nat → Prop} {S S' : aw_S} (h : FrL X S S') {k : Nat} (g : Nat → Int64) (hx : ∀ j, X k j) : FrL X S (aw_wL S' k g) := by
  refine ⟨fun c i q => ?_, h.2⟩
  rw [wL_at]
  by_cases e : c = k
  · subst e
    exact absurd (hx i) q
  · rw [if_neg e]
    exact h.1 c i q
def bnN (o : Nat) : Nat → Nat → Nat
  | 0, i => if i = 0 then 1 else 0
  | m + 1, 0 => bnN o m 0 * (16 - o)
  | m + 1, i + 1 => bnN o m (i + 1) * (16 - o) + bnN o m i * o
theorem bn_hi (o : Nat) : ∀ m i, m < i → bnN o m i = 0 := by
  intro m
  induction m with
  | zero =>
    intro i h
    unfold bnN
    rw [if_neg (by omega)]
  | succ m ih =>
    intro i h
    cases i with
    | zero => omega
    | succ i =>
      unfold bnN
      rw [ih (i + 1) (by omega), ih i (by omega), Nat.zero_mul, Nat.zero_mul]
theorem bn_le {o : Nat} (ho : o ≤ 16) : ∀ m i, bnN o m i ≤ 16 ^ m := by
  intro m
  induction m with
  | zero =>
    intro i
    unfold bnN
    split <;> simp
  | succ m ih =>
    intro i
    rw [Nat.pow_succ]
    cases i with
    | zero =>
      unfold bnN
      exact Nat.mul_le_mul (ih 0) (by omega)
    | succ i =>
      unfold bnN
      have h1 := Nat.mul_le_mul (ih (i + 1)) (Nat.le_refl (16 - o))
      have h2 := Nat.mul_le_mul (ih i) (Nat.le_refl o)
      have h3 : 16 ^ m * (16 - o) + 16 ^ m * o = 16 ^ m * 16 := by
        rw [← Nat.mul_add]
        congr 1
        omega
      omega
def suN (F : Nat → Nat) (k : Nat) : Nat → Nat
  | 0 => 0
  | j + 1 => suN F k j + F (k + j)
theorem su_s (F : Nat → Nat) (k j : Nat) : suN F k (j + 1) = suN F k j + F (k + j) := rfl
theorem su_0 {F : Nat → Nat} {k : Nat} : ∀ i j, (∀ x, k + i ≤ x → F x = 0) → i ≤ j → suN F k j = suN F k i := by
  intro i j h hij
  induction hij with
  | refl => rfl
  | @step j hj ih =>
    have hj : i ≤ j := hj
    rw [su_s, ih, h (k + j) (by omega), Nat.add_zero]
theorem su_le {F : Nat → Nat} {k B : Nat} (h : ∀ x, F x ≤ B) : ∀ j, suN F k j ≤ j * B := by
  intro j
  induction j with
  | zero => exact Nat.zero_le _
  | succ j ih =>
    rw [su_s, Nat.succ_mul]
    have := h (k + j)
    omega
theorem p16 {n : Nat} (h : n ≤ 12) : 0 < 16 ^ n ∧ 16 ^ n ≤ 2 ^ 48 := by
  have h1 : 16 ^ n ≤ 16 ^ 12 := Nat.pow_le_pow_right (n := 16) (by decide) h
  exact ⟨Nat.pow_pos (by decide), by omega⟩
theorem l16 {o : Nat} (ho : o ≤ 16) : ((16 : Int32) - nI o).toInt64 = lN (16 - o) := by
  rw [show (16 : Int32) = nI 16 from rfl, pk_sub ho, nI_l (by omega)]
section SL
variable {l : Launch} {d : Nat} {S : aw_S}
theorem sp_setSlips {P : aw_S → Prop} {o n k : Nat} (hR : RefsOk S.2.2) (ho : o ≤ 16) (hn : n ≤ 12) (hk : k ≤ 12) (h : ∀ S', FrL (fun c _ => c = 112) S S' → P (aw_uL (aw_uL S' 111 0 (lN (suN (bnN o n) k (13 - k) / Nat.gcd (suN (bnN o n) k (13 - k)) (16 ^ n)))) 111 1 (lN (16 ^ n / Nat.gcd (suN (bnN o n) k (13 - k)) (16 ^ n))))) : Sp l m_Ch_setSlips (d + 1 + 1 + 1) 0 0 [.ref 111, .int (nI o), .int (nI n), .int (nI k)] sh0 S (gV sh0 P) := by
  have r2 : S.2.2 111 2 = some 112 := hR.at (by decide)
  refine e_Ch_setSlips rfl ⟨112, r2, sp_fillL (n := 13) rfl (by omega) ⟨112, r2, 13, rfl, vp_in_nI (n := 0) (by omega) (by omega), ?_⟩⟩
  have sum : ∀ j i S' (acc : Nat), i + j = n + 1 → k ≤ i → FrL (fun c _ => c = 112) S S' → (∀ x, x < 13 → S'.2.1 112 x = lN (bnN o n x)) → acc = suN (bnN o n) k (i - k) → AW l m_Ch_setSlips (d + 1 + 1 + 1) 0 0 (gV sh0 P) 0 0 109 [.ref 111, .null, .int (nI n), .null, .long (lN (16 ^ n)), .null, .long (lN acc), .null, .int (nI i)] [] sh0 S' := by
    intro j
    have fin : ∀ i S', k ≤ i → n + 1 ≤ i → FrL (fun c _ => c = 112) S S' → Sp l m_Ch_set (d + 1 + 1) 0 0 [.ref 111, .long (lN (suN (bnN o n) k (i - k))), .long (lN (16 ^ n))] sh0 S' (gV sh0 (fun S2 => P S2)) := by
      intro i S' hki hni F
      have e : suN (bnN o n) k (i - k) = suN (bnN o n) k (13 - k) := by
        have c1 := su_0 (F := bnN o n) (k := k) (n + 1 - k) (i - k) (fun x hx => bn_hi o n x (by omega)) (by omega)
        have c2 := su_0 (F := bnN o n) (k := k) (n + 1 - k) (13 - k) (fun x hx => bn_hi o n x (by omega)) (by omega)
        rw [c1, c2]
      have q := p16 hn
      have b := su_le (F := bnN o n) (k := k) (bn_le ho n) (13 - k)
      have b2 : (13 - k) * 16 ^ n ≤ 13 * 16 ^ n := Nat.mul_le_mul (by omega) (Nat.le_refl _)
      rw [e]
      exact sp_Ch_set rfl (by omega) (by omega) q.1 (h S' F)
    induction j with
    | zero =>
      intro i S' acc hi hki F V ha
      subst ha
      exact s_Ch_setSlips_109 rfl ⟨fun _ => fin i S' hki (by omega) F, fun q => absurd (nI_lt (by omega) (by omega)) q⟩
    | succ j ih =>
      intro i S' acc hi hki F V ha
      refine s_Ch_setSlips_109 rfl ⟨fun q => absurd q (nI_nlt (by omega) (by omega)), fun _ => ⟨112, by rw [F.2.2]; exact r2, 13, rfl, vp_in_nI (by omega) (by omega), ?_⟩⟩
      rw [nI_clamp (by omega), V i (by omega), lN_add, nI_1]
      refine ih (i + 1) S' _ (by omega) (by omega) F V ?_
      rw [show i + 1 - k = (i - k) + 1 by omega, su_s, ha, show k + (i - k) = i by omega]
  have key : ∀ j p S', p + j = n → FrL (fun c _ => c = 112) S S' → (∀ x, x < 13 → S'.2.1 112 x = lN (bnN o p x)) → AW l m_Ch_setSlips (d + 1 + 1 + 1) 0 0 (gV sh0 P) 0 0 21 [.ref 111, .int (nI o), .int (nI n), .int (nI k), .long (lN (16 ^ p)), .null, .int (nI (p + 1)), .null, .null] [] sh0 S' := by
    intro j
    induction j with
    | zero =>
      intro p S' hp F V
      have hp : p = n := hp
      subst hp
      refine s_Ch_setSlips_21 rfl ⟨fun _ => ?_, fun q => absurd (nI_lt (by omega) (by omega)) q⟩
      by_cases c : k ≤ p + 1
      · exact sum (p + 1 - k) k S' 0 (by omega) (Nat.le_refl _) F V (by rw [Nat.sub_self]; rfl)
      · have q := p16 hn
        have b := su_le (F := bnN o p) (k := k) (bn_le ho p) (13 - k)
        have b2 : (13 - k) * 16 ^ p ≤ 13 * 16 ^ p := Nat.mul_le_mul (by omega) (Nat.le_refl _)
        refine s_Ch_setSlips_109 rfl ⟨fun _ => ?_, fun q => absurd (nI_lt (by omega) (by omega)) q⟩
        have e : suN (bnN o p) k (13 - k) = 0 := su_0 0 (13 - k) (fun x hx => bn_hi o p x (by omega)) (Nat.zero_le _)
        have hp := h S' F
        rw [e] at hp
        exact sp_Ch_set (a := 0) rfl (by omega) (by omega) q.1 hp
    | succ j ih =>
      intro p S' hp F V
      refine s_Ch_setSlips_21 rfl ⟨fun q => absurd q (nI_nlt (by omega) (by omega)), fun _ => ?_⟩
      have inner : ∀ m T, m ≤ p + 1 → FrL (fun c _ => c = 112) S T → (∀ x, x < 13 → T.2.1 112 x = lN (if m < x then bnN o (p + 1) x else bnN o p x)) → AW l m_Ch_setSlips (d + 1 + 1 + 1) 0 0 (gV sh0 P) 0 0 31 [.ref 111, .int (nI o), .int (nI n), .int (nI k), .long (lN (16 ^ p)), .null, .int (nI (p + 1)), .int (nI m), .null] [] sh0 T := by
        intro m
        induction m with
        | zero =>
          intro T hm FT VT
          refine s_Ch_setSlips_31 rfl ⟨fun _ => ⟨112, by rw [FT.2.2]; exact r2, 13, rfl, vp_in_nI (n := 0) (by omega) (by omega), vp_in_nI (n := 0) (by omega) (by omega), ?_⟩, fun q => absurd (Int32.le_refl 0) q⟩
          show AW l m_Ch_setSlips _ 0 0 _ 0 0 21 [_, _, _, _, .long (lN (16 ^ p) * lN 16), _, _, _, _] [] sh0 (aw_uL T 112 0 (T.2.1 112 0 * _))
          rw [VT 0 (by omega), if_neg (by omega), l16 ho, lN_mul, lN_mul, ← Nat.pow_succ, nI_1]
          refine ih (p + 1) _ (by omega) (FT.uL _ rfl) (fun x hx => ?_)
          rw [uL_at, if_pos rfl]
          by_cases e : x = 0
          · rw [if_pos e, e]
            rfl
          · rw [if_neg e, VT x hx, if_pos (by omega)]
        | succ m ih' =>
          intro T hm FT VT
          refine s_Ch_setSlips_31 rfl ⟨fun q => absurd q (nI_nle (by omega) (by omega)), fun _ => ⟨112, by rw [FT.2.2]; exact r2, 13, rfl, vp_in_nI (by omega) (by omega), by rw [nI_pred]; exact vp_in_nI (by omega) (by omega), vp_in_nI (by omega) (by omega), ?_⟩⟩
          rw [nI_pred, nI_clamp (by omega), nI_clamp (by omega), VT (m + 1) (by omega), VT m (by omega), if_neg (by omega), if_neg (by omega), l16 ho, nI_l (by omega), lN_mul, lN_mul, lN_add, pk_m1]
          refine ih' _ (by omega) (FT.uL _ rfl) (fun x hx => ?_)
          rw [uL_at, if_pos rfl]
          by_cases e : x = m + 1
          · rw [if_pos e, if_pos (by omega), e]
            rfl
          · rw [if_neg e, VT x hx]
            by_cases e2 : m + 1 < x
            · rw [if_pos e2, if_pos (by omega)]
            · rw [if_neg e2, if_neg (by omega)]
      refine inner (p + 1) S' (Nat.le_refl _) F (fun x hx => ?_)
      rw [V x hx]
      by_cases c : p + 1 < x
      · rw [if_pos c, bn_hi o p x (by omega), bn_hi o (p + 1) x (by omega)]
      · rw [if_neg c]
  refine key n 0 _ (by omega) (((FrL.refl (fun c _ => c = 112) S).wL _ (fun _ => rfl)).uL _ rfl) (fun x hx => ?_)
  show (aw_uL (aw_wL S 112 _) 112 0 1).2.1 112 x = _
  rw [uL_at, if_pos rfl]
  unfold bnN
  by_cases e : x = 0
  · rw [if_pos e, if_pos e]
    rfl
  · rw [if_neg e, if_neg e, wL_self, if_pos hx]
    rfl
theorem sp_Md_slips {P : Int32 → aw_S → Prop} {o n k : Nat} (hR : RefsOk S.2.2) (ho : o ≤ 16) (hn : n ≤ 12) (hk : k ≤ 12) (h1 : S.1 115 1 = nI o) (h : ∀ S', FrL (fun c _ => c = 137) S S' → P 1 (aw_uI (aw_uL (aw_uL S' 114 3 (lN (suN (bnN o n) k (13 - k) / Nat.gcd (suN (bnN o n) k (13 - k)) (16 ^ n)))) 114 4 (lN (16 ^ n / Nat.gcd (suN (bnN o n) k (13 - k)) (16 ^ n)))) 114 2 0)) : AW l m_Md_slipped (d + 1 + 1 + 1) 0 0 (gI sh0 P) 0 0 35 [.ref 114, .int (nI n), .int (nI k), .long 1, .null, .int 0, .null, .null] [] sh0 S := by
  have r42 : S.2.2 114 42 = some 137 := hR.at (by decide)
  have r0 : S.2.2 114 0 = some 115 := hR.at (by decide)
  have sum : ∀ j i S' (acc : Nat), i + j = 13 → k ≤ i → FrL (fun c _ => c = 137) S S' → (∀ x, x < 13 → S'.2.1 137 x = lN (bnN o n x)) → acc = suN (bnN o n) k (i - k) → AW l m_Md_slipped (d + 1 + 1 + 1) 0 0 (gI sh0 P) 0 0 159 [.ref 114, .null, .null, .long (lN (16 ^ n)), .null, .long (lN acc), .null, .int (nI i)] [] sh0 S' := by
    intro j
    induction j with
    | zero =>
      intro i S' acc hi hki F V ha
      have hi : i = 13 := hi
      subst hi
      subst ha
      have q := p16 hn
      have b := su_le (F := bnN o n) (k := k) (bn_le ho n) (13 - k)
      have b2 : (13 - k) * 16 ^ n ≤ 13 * 16 ^ n := Nat.mul_le_mul (by omega) (Nat.le_refl _)
      exact s_Md_slipped_159 rfl ⟨fun _ => sp_tellsBy (by omega) (by omega) q.1 ⟨Or.inr rfl, h S' F⟩, fun q => absurd (by decide) q⟩
    | succ j ih =>
      intro i S' acc hi hki F V ha
      refine s_Md_slipped_159 rfl ⟨fun q => absurd q (nI_ge (b := 13) (by omega) (by omega)), fun _ => ⟨137, by rw [F.2.2]; exact r42, 13, rfl, vp_in_nI (by omega) (by omega), ?_⟩⟩
      rw [nI_clamp (by omega), V i (by omega), lN_add, nI_1]
      refine ih (i + 1) S' _ (by omega) (by omega) F V ?_
      rw [show i + 1 - k = (i - k) + 1 by omega, su_s, ha, show k + (i - k) = i by omega]
  have key : ∀ j p S', p + j = n → FrL (fun c _ => c = 137) S S' → (∀ x, x < 13 → S'.2.1 137 x = lN (bnN o p x)) → AW l m_Md_slipped (d + 1 + 1 + 1) 0 0 (gI sh0 P) 0 0 68 [.ref 114, .int (nI n), .int (nI k), .long (lN (16 ^ p)), .null, .int (nI p), .null, .null] [] sh0 S' := by
    intro j
    induction j with
    | zero =>
      intro p S' hp F V
      have hp : p = n := hp
      subst hp
      exact s_Md_slipped_68 rfl ⟨fun _ => sum (13 - k) k S' 0 (by omega) (Nat.le_refl _) F V (by rw [Nat.sub_self]; rfl), fun q => absurd (nI_le (Nat.le_refl _) (by omega)) q⟩
    | succ j ih =>
      intro p S' hp F V
      refine s_Md_slipped_68 rfl ⟨fun q => absurd q (nI_ge (by omega) (by omega)), fun _ => ?_⟩
      have inner : ∀ m T, m ≤ 13 → FrL (fun c _ => c = 137) S T → (∀ x, x < 13 → T.2.1 137 x = lN (if m ≤ x then bnN o (p + 1) x else bnN o p x)) → AW l m_Md_slipped (d + 1 + 1 + 1) 0 0 (gI sh0 P) 0 0 78 [.ref 114, .int (nI n), .int (nI k), .long (lN (16 ^ p)), .null, .int (nI p), .int (nI m - 1), .null] [] sh0 T := by
        intro m
        induction m with
        | zero =>
          intro T hm FT VT
          rw [iM_0]
          refine s_Md_slipped_78 rfl ⟨fun _ => ?_, fun q => absurd m1_lt q⟩
          show AW l m_Md_slipped _ 0 0 _ 0 0 68 [_, _, _, .long (lN (16 ^ p) * lN 16), _, _, _, _] [] sh0 T
          rw [lN_mul, ← Nat.pow_succ, nI_1]
          refine ih (p + 1) T (by omega) FT (fun x hx => ?_)
          rw [VT x hx, if_pos (Nat.zero_le _)]
        | succ m ih' =>
          intro T hm FT VT
          rw [nI_pred]
          have h1T : T.1 115 (1 : Int32).toNatClampNeg = nI o := by rw [FT.2.1]; exact h1
          refine s_Md_slipped_78 rfl ⟨fun q => absurd q (nI_pos (by omega)), fun _ => ⟨137, by rw [FT.2.2]; exact r42, 13, rfl, vp_in_nI (by omega) (by omega), 115, by rw [FT.2.2]; exact r0, 3864, rfl, vp_in_nI (n := 1) (by omega) (by omega), ?_⟩⟩
          rw [h1T, nI_clamp (by omega), VT m (by omega), if_neg (by omega), l16 ho, nI_mm]
          have step : ∀ v : Int64, v = lN (bnN o (p + 1) m) → AW l m_Md_slipped (d + 1 + 1 + 1) 0 0 (gI sh0 P) 0 0 78 [.ref 114, .int (nI n), .int (nI k), .long (lN (16 ^ p)), .null, .int (nI p), .int (nI m - 1), .null] [] sh0 (aw_uL T 137 m v) := by
            intro v hv
            refine ih' _ (by omega) (FT.uL _ rfl) (fun x hx => ?_)
            rw [uL_at, if_pos rfl]
            by_cases e : x = m
            · rw [if_pos e, if_pos (by omega), hv, e]
            · rw [if_neg e, VT x hx]
              by_cases e2 : m + 1 ≤ x
              · rw [if_pos e2, if_pos (by omega)]
              · rw [if_neg e2, if_neg (by omega)]
          refine ⟨fun q => ?_, fun q => ⟨vp_in_nI (by omega) (by omega), step _ ?_⟩⟩
          · obtain ⟨m', rfl⟩ : ∃ m', m = m' + 1 := ⟨m - 1, by
              have : ¬ m = 0 := fun z => q (by rw [z]; rfl)
              omega⟩
            rw [nI_pred]
            refine ⟨vp_in_nI (by omega) (by omega), vp_in_nI (n := 1) (by omega) (by omega), vp_in_nI (by omega) (by omega), ?_⟩
            rw [nI_clamp (by omega), VT m' (by omega), if_neg (by omega), nI_l (by omega)]
            have e := step (lN (bnN o p (m' + 1)) * lN (16 - o) + lN (bnN o p m') * lN o) (by rw [lN_mul, lN_mul, lN_add]; rfl)
            rw [nI_pred] at e
            exact e
          · have e : m = 0 := (nI_inj (b := 0) (by omega) (by omega)).mp q
            rw [e, lN_mul]
            show _ + lN 0 = _
            rw [lN_add]
            rfl
      refine inner 13 S' (Nat.le_refl _) F (fun x hx => ?_)
      rw [V x hx, if_neg (by omega)]
  have init : ∀ j i S', i + j = 13 → FrL (fun c _ => c = 137) S S' → (∀ x, x < i → S'.2.1 137 x = lN (bnN o 0 x)) → AW l m_Md_slipped (d + 1 + 1 + 1) 0 0 (gI sh0 P) 0 0 35 [.ref 114, .int (nI n), .int (nI k), .long 1, .null, .int (nI i), .null, .null] [] sh0 S' := by
    intro j
    induction j with
    | zero =>
      intro i S' hi F V
      have hi : i = 13 := hi
      subst hi
      exact s_Md_slipped_35 rfl ⟨fun _ => key n 0 S' (by omega) F V, fun q => absurd (by decide) q⟩
    | succ j ih =>
      intro i S' hi F V
      have step : ∀ v : Int64, v = lN (bnN o 0 i) → AW l m_Md_slipped (d + 1 + 1 + 1) 0 0 (gI sh0 P) 0 0 35 [.ref 114, .int (nI n), .int (nI k), .long 1, .null, .int (nI i + 1), .null, .null] [] sh0 (aw_uL S' 137 (nI i).toNatClampNeg v) := by
        intro v hv
        rw [nI_clamp (by omega), nI_1]
        refine ih (i + 1) _ (by omega) (F.uL _ rfl) (fun x hx => ?_)
        rw [uL_at, if_pos rfl]
        by_cases e : x = i
        · rw [if_pos e, hv, e]
        · rw [if_neg e]
          exact V x (by omega)
      refine s_Md_slipped_35 rfl ⟨fun q => absurd q (nI_ge (b := 13) (by omega) (by omega)), fun _ => ⟨137, by rw [F.2.2]; exact r42, fun q => ⟨13, rfl, vp_in_nI (by omega) (by omega), step 0 ?_⟩, fun q => ⟨13, rfl, vp_in_nI (by omega) (by omega), step 1 ?_⟩⟩⟩
      · unfold bnN
        rw [if_neg (fun z => q (by rw [z]; rfl))]
        rfl
      · unfold bnN
        rw [if_pos ((nI_inj (b := 0) (by omega) (by omega)).mp q)]
        rfl
  exact init 13 0 S (by omega) (FrL.refl _ _) (fun x hx => absurd hx (Nat.not_lt_zero x))
end SL
/-- the last step of a call that tells a fraction -/
theorem Inv.frq {S S1 S2 : aw_S} {a b : Nat} {g : GM} {p q : Int64} (h : Inv S) (N : NowI S a b g) (F1 : FrL (fun c _ => c = 112 ∨ c = 113) S S1) (F2 : FrL (fun c _ => 120 ≤ c) (aw_uI (aw_uL (aw_uL S1 111 0 p) 111 1 q) 0 3 0) S2) : Inv (aw_uI (aw_uL (aw_uL S2 114 3 p) 114 4 q) 114 2 0) := by
  refine h.frc N (fun k j z => ?_) (fun k j z => ?_) ?_ ?_ ?_
  · rw [uI_at, uL_I, uL_I, F2.2.1]
    by_cases c1 : k = 114
    · rw [if_pos c1, if_neg (fun e => z (by omega)), uI_ne _ _ _ (by omega), uL_I, uL_I, F1.2.1, c1]
    · rw [if_neg c1, uI_at, uL_I, uL_I, F1.2.1]
      by_cases c2 : k = 0
      · rw [if_pos c2, if_neg (fun e => z (by omega)), c2]
      · rw [if_neg c2]
  · rw [uI_L, uL_ne _ _ _ (by omega), uL_ne _ _ _ (by omega), F2.1 k j (by omega), uI_L, uL_ne _ _ _ (by omega), uL_ne _ _ _ (by omega), F1.1 k j (by omega)]
  · show S2.2.2 = S.2.2
    rw [F2.2.2]
    exact F1.2.2
  · rw [uI_ne _ _ _ (by omega), uL_I, uL_I, F2.2.1, uI_at, if_pos rfl, if_pos rfl, uI_at, if_pos rfl, if_pos rfl]
  · have e : ∀ j, S2.2.1 111 j = (aw_uI (aw_uL (aw_uL S1 111 0 p) 111 1 q) 0 3 0).2.1 111 j := fun j => F2.1 111 j (by omega)
    simp only [uI_L, uL_at, e]
    simp
theorem ok_slipped (l : Launch) : Ok_slipped l 0 114 sh0 Inv := by
  intro S hI x y
  obtain ⟨a, b, g, N⟩ := hI.now
  have hS := N.S hI.rf
  obtain ⟨n1, n2, n3, n4, n5, n6, n7, n8, n9, n10⟩ := id N
  have ho : g.od ≤ 16 := n4.2.1
  refine e_Mg_slipped rfl (sp_isWithin ?_)
  by_cases c1 : 0 ≤ x ∧ x ≤ 12
  · rw [if_pos c1]
    refine ⟨fun q => absurd q (by decide), fun _ => sp_isWithin ?_⟩
    by_cases c2 : 0 ≤ y ∧ y ≤ 12
    · rw [if_pos c2]
      obtain ⟨n, hn, rfl⟩ := le_ge (n := 12) (by decide) c1
      obtain ⟨k, hk, rfl⟩ := le_ge (n := 12) (by decide) c2
      refine ⟨fun _ => ⟨111, hI.rf.at (by decide), a, n1, hS.sa, rfl, ?_⟩, fun q => absurd q (by decide)⟩
      rw [n6.2.1]
      refine sp_setSlips (d := 196) hI.rf ho hn hk (fun S1 F1 => e_Mg_grant rfl ⟨Or.inr rfl, ?_⟩)
      refine e_Md_slipped rfl (sp_isFrom (d := 198) (y := 0) (z := 12) (by decide) (by decide) (fun _ => ⟨fun q => absurd q (by decide), fun _ => sp_isFrom (d := 198) (y := 0) (z := 12) (by decide) (by decide) (fun _ => ⟨fun _ => ?_, fun q => absurd q (by decide)⟩) (fun z => absurd c2 z)⟩) (fun z => absurd c1 z))
      refine sp_Md_slips (d := 197) (o := g.od) (by rw [uI_R, uL_R, uL_R, F1.2.2]; exact hI.rf) ho hn hk ?_ (fun S2 F2 => ⟨rfl, hI.frq N (F1.mono (fun c _ q => Or.inl q)) (F2.mono (fun c _ q => by omega))⟩)
      rw [uI_ne _ _ _ (by omega), uL_I, uL_I, F1.2.1]
      exact n7.2.1
    · rw [if_neg c2]
      exact ⟨fun q => absurd rfl q, fun _ => e_Mg_refuse rfl ⟨Or.inl rfl, e_Md_slipped rfl (sp_isFrom (d := 198) (y := 0) (z := 12) (by decide) (by decide) (fun _ => ⟨fun q => absurd q (by decide), fun _ => sp_isFrom (d := 198) (y := 0) (z := 12) (by decide) (by decide) (fun z => absurd z c2) (fun _ => ⟨fun q => absurd rfl q, fun _ => sp_is1 (by decide) ⟨Or.inl rfl, rfl, hI.st rfl⟩⟩)⟩) (fun z => absurd c1 z))⟩⟩
  · rw [if_neg c1]
    exact ⟨fun _ => e_Mg_refuse rfl ⟨Or.inl rfl, e_Md_slipped rfl (sp_isFrom (d := 198) (y := 0) (z := 12) (by decide) (by decide) (fun z => absurd z c1) (fun _ => ⟨fun _ => sp_is1 (by decide) ⟨Or.inl rfl, rfl, hI.st rfl⟩, fun q => absurd rfl q⟩))⟩, fun q => absurd rfl q⟩
