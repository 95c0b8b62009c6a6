/-! tokens: the class goes on -/
/-- what changes when the class reads on -/
def FrT (S S' : aw_S) : Prop := (∀ k j, ¬ (k = 94 ∧ (j = 2 ∨ j = 4 ∨ j = 5 ∨ j = 8 ∨ j = 9)) → S'.1 k j = S.1 k j) ∧ (∀ k j, k ≠ 94 → S'.2.1 k j = S.2.1 k j) ∧ S'.2.2 = S.2.2
theorem FrT.refl (S : aw_S) : FrT S S := ⟨fun _ _ _ => rfl, fun _ _ _ => rfl, rfl⟩
theorem FrT.trans {S S' S'' : aw_S} (h : FrT S S') (h' : FrT S' S'') : FrT S S'' := ⟨fun k j q => (h'.1 k j q).trans (h.1 k j q), fun k j q => (h'.2.1 k j q).trans (h.2.1 k j q), h'.2.2.trans h.2.2⟩
theorem FrT.uI {S S' : aw_S} (h : FrT S S') {j : Nat} (v : Int32) (hj : j = 2 ∨ j = 4 ∨ j = 5 ∨ j = 8 ∨ j = 9) : FrT S (aw_uI S' 94 j v) := by
  refine ⟨fun k i q => ?_, h.2.1, h.2.2⟩
  rw [uI_at]
  by_cases c : k = 94
  · rw [if_pos c, if_neg (by omega), ← c]
    exact h.1 k i q
  · rw [if_neg c]
    exact h.1 k i q
theorem FrT.uL {S S' : aw_S} (h : FrT S S') {j : Nat} (v : Int64) : FrT S (aw_uL S' 94 j v) := by
  refine ⟨h.1, fun k i q => ?_, h.2.2⟩
  rw [uL_ne _ _ _ q]
  exact h.2.1 k i q
/-- the class's token -/
def TcR (S : aw_S) (B : Nat → Nat) (t : TK) : Prop := S.1 94 2 = nI t.k ∧ S.1 94 8 = nI t.b ∧ S.1 94 9 = nI t.e ∧ (t.k = 1 → S.2.1 94 3 = lN (if t.e - t.b ≤ 8 then p5 (wdL B t.b (t.e - t.b)) else 0)) ∧ (t.k = 2 → S.1 94 4 = nI (nvL B t.b (t.e - t.b))) ∧ (t.k = 3 → S.1 94 5 = nI (B t.b))
/-- the text that it reads -/
def TxC (S : aw_S) (B : Nat → Nat) (L : Nat) : Prop := S.2.2 94 6 = some 10 ∧ S.1 94 7 = nI L ∧ L ≤ 900 ∧ ∀ j, j < L → byP (S.1 10 j) (B j)
theorem TxC.fr {S S' : aw_S} {B : Nat → Nat} {L : Nat} (h : TxC S B L) (F : FrT S S') : TxC S' B L := by
  obtain ⟨h1, h2, h3, h4⟩ := h
  refine ⟨by rw [F.2.2]; exact h1, (F.1 94 7 (by omega)).trans h2, h3, fun j hj => ?_⟩
  rw [F.1 10 j (by omega)]
  exact h4 j hj
theorem sh5 {a c : Nat} (ha : a < 2 ^ 35) (h1 : 97 ≤ c) (h2 : c ≤ 122) : (lN a <<< (((5) : Int32).toInt64 &&& 63)) ||| (((nI c - (97 : Int32)) + (1 : Int32)).toInt64) = lN (a * 32 + (c - 96)) := by
  have e : (nI c - (97 : Int32)) + (1 : Int32) = nI (c - 96) := by
    rw [show (97 : Int32) = nI 97 from rfl, nI_sub h1, nI_1]
    congr 1
    omega
  rw [e, nI_l (by omega), show ((5 : Int32).toInt64 &&& 63) = ((nI 5).toInt64 &&& 63) from rfl, wb_shl a (k := 5) (by omega), show (2 : Nat) ^ 5 = 32 from rfl]
  exact g_or (k := 5) rfl (by omega) (by omega)
section AD
variable {l : Launch} {d : Nat} {B : Nat → Nat} {L : Nat}
theorem sp_advWord {S : aw_S} {P : aw_S → Prop} {s : Nat} (hx : TxC S B L) (h8 : S.1 94 8 = nI s) (h9 : S.1 94 9 = nI s) (hs : s ≤ L) (k : ∀ S', FrT S S' → TcR S' B (1, s, spE B L cSm s) → P S') : Sp l m_To_advanceWord (d + 1) 0 0 [.ref 94] sh0 S (gV sh0 P) := by
  have hL := hx.2.2.1
  have key : ∀ m r S1, L - (s + r) ≤ m → s + r ≤ L → spE B L cSm (s + r) = spE B L cSm s → (∀ j, s ≤ j → j < s + r → 97 ≤ B j ∧ B j ≤ 122) → FrT S S1 → S1.1 94 2 = 1 → S1.1 94 8 = nI s → S1.1 94 9 = nI (s + r) → S1.2.1 94 3 = lN (if r ≤ 8 then p5 (wdL B s r) else 0) → AW l m_To_advanceWord (d + 1) 0 0 (gV sh0 P) 0 0 10 [.ref 94] [] sh0 S1 := by
    have fin : ∀ r S1, s + r ≤ L → spE B L cSm (s + r) = s + r → spE B L cSm (s + r) = spE B L cSm s → FrT S S1 → S1.1 94 2 = 1 → S1.1 94 8 = nI s → S1.1 94 9 = nI (s + r) → S1.2.1 94 3 = lN (if r ≤ 8 then p5 (wdL B s r) else 0) → P S1 := by
      intro r S1 h1 h2 h3 F e2 e8 e9 e3
      rw [h2] at h3
      refine k S1 F ⟨e2, e8, ?_, fun _ => ?_, fun z => absurd z (by decide : ¬ (1 : Nat) = 2), fun z => absurd z (by decide : ¬ (1 : Nat) = 3)⟩
      · show _ = nI (spE B L cSm s)
        rw [← h3]
        exact e9
      · show _ = lN (if spE B L cSm s - s ≤ 8 then p5 (wdL B s (spE B L cSm s - s)) else 0)
        rw [← h3, show s + r - s = r by omega]
        exact e3
    intro m
    induction m with
    | zero =>
      intro r S1 hm h1 h3 hw F e2 e8 e9 e3
      have h7 := (hx.fr F).2.1
      have hno : spE B L cSm (s + r) = s + r := spE_no (by omega)
      refine s_To_advanceWord_10 rfl ⟨fun _ => fin r S1 h1 hno h3 F e2 e8 e9 e3, fun z => absurd ?_ z⟩
      rw [h7, e9]
      exact nI_le (by omega) (by omega)
    | succ m ih =>
      intro r S1 hm h1 h3 hw F e2 e8 e9 e3
      obtain ⟨x6, x7, -, xb⟩ := hx.fr F
      by_cases c : s + r < L
      · have hb := xb (s + r) c
        have g97 := hb.lt (c := 97) (by omega)
        have g122 := hb.gt (c := 122) (by omega)
        have hv : vp_in (nI (s + r)) 900 := vp_in_nI (by omega) (by omega)
        have hbb : B (s + r) < 256 := by rcases hb with ⟨q, -⟩ | ⟨-, q, -⟩ <;> omega
        refine s_To_advanceWord_10 rfl ⟨fun z => absurd z ?_, fun _ => ⟨10, x6, 900, rfl, ?_⟩⟩
        · rw [x7, e9]
          exact nI_ge c (by omega)
        rw [e9, nI_clamp (by omega), e8]
        by_cases sm : cSm (B (s + r)) = true
        · have sm' : 97 ≤ B (s + r) ∧ B (s + r) ≤ 122 := by
            unfold cSm at sm
            rwa [decide_eq_true_iff] at sm
          have h3' : spE B L cSm (s + (r + 1)) = spE B L cSm s := by rw [← h3]; exact (spE_go c sm).symm
          have hw' : ∀ j, s ≤ j → j < s + (r + 1) → 97 ≤ B j ∧ B j ≤ 122 := fun j q1 q2 => by
            by_cases e : j = s + r
            · rw [e]; exact sm'
            · exact hw j q1 (by omega)
          have exn : S1.1 10 (s + r) = nI (B (s + r)) := hb.lo (by omega)
          refine ⟨hv, fun z => absurd (g97.mp z) (by omega), fun _ => ⟨hv, fun z => absurd (g122.mp z) (by omega), fun _ => ?_⟩⟩
          rw [nI_sub (show s ≤ s + r by omega), show s + r - s = r by omega]
          refine ⟨fun z => ?_, fun z => ⟨hv, ?_⟩⟩
          · have z : 8 ≤ r := (nI_leI (a := 8) (by omega) (by omega)).mp z
            rw [uL_I, e9, nI_1]
            refine ih (r + 1) _ (by omega) (by omega) h3' hw' ((F.uL _).uI _ (by omega)) ?_ ?_ ?_ ?_
            · rw [uI_at, if_pos rfl, if_neg (by omega), uL_I]; exact e2
            · rw [uI_at, if_pos rfl, if_neg (by omega), uL_I]; exact e8
            · rw [uI_at, if_pos rfl, if_pos rfl]; rfl
            · rw [uI_L, uL_at, if_pos rfl, if_pos rfl, if_neg (by omega)]; rfl
          · have z : r < 8 := by
              have : ¬ 8 ≤ r := fun y => z (nI_le (a := 8) y (by omega))
              omega
            have lt := p5_lt (wdL B s r) (wdL_in r hw)
            rw [wdL_len] at lt
            have lt2 : (32 : Nat) ^ r ≤ 32 ^ 7 := Nat.pow_le_pow_right (by decide) (by omega)
            rw [uL_I, e9, nI_1, e3, if_pos (by omega), exn, sh5 (by omega) sm'.1 sm'.2]
            refine ih (r + 1) _ (by omega) (by omega) h3' hw' ((F.uL _).uI _ (by omega)) ?_ ?_ ?_ ?_
            · rw [uI_at, if_pos rfl, if_neg (by omega), uL_I]; exact e2
            · rw [uI_at, if_pos rfl, if_neg (by omega), uL_I]; exact e8
            · rw [uI_at, if_pos rfl, if_pos rfl]; rfl
            · rw [uI_L, uL_at, if_pos rfl, if_pos rfl, if_pos (by omega)]; rfl
        · have hno : spE B L cSm (s + r) = s + r := spE_no (fun z => sm z.2)
          have sm' : ¬ (97 ≤ B (s + r) ∧ B (s + r) ≤ 122) := by
            unfold cSm at sm
            rwa [decide_eq_true_iff] at sm
          refine ⟨hv, fun _ => fin r S1 h1 hno h3 F e2 e8 e9 e3, fun z => ⟨hv, fun _ => fin r S1 h1 hno h3 F e2 e8 e9 e3, fun z2 => ?_⟩⟩
          exfalso
          have q1 : ¬ (B (s + r) < 97 ∨ 128 ≤ B (s + r)) := fun y => z (g97.mpr y)
          have q2 : ¬ (122 < B (s + r) ∧ B (s + r) < 128) := fun y => z2 (g122.mpr y)
          omega
      · have hno : spE B L cSm (s + r) = s + r := spE_no (by omega)
        refine s_To_advanceWord_10 rfl ⟨fun _ => fin r S1 h1 hno h3 F e2 e8 e9 e3, fun z => absurd ?_ z⟩
        rw [x7, e9]
        exact nI_le (by omega) (by omega)
  refine e_To_advanceWord rfl (key L 0 _ (by omega) hs rfl (fun j q1 q2 => by omega) (((FrT.refl S).uI _ (by omega)).uL _) ?_ ?_ ?_ ?_)
  · rw [uL_I, uI_at, if_pos rfl, if_pos rfl]
  · rw [uL_I, uI_at, if_pos rfl, if_neg (by omega)]; exact h8
  · rw [uL_I, uI_at, if_pos rfl, if_neg (by omega)]; exact h9
  · rw [uL_at, if_pos rfl, if_pos rfl]; rfl
theorem sp_advNumber {S : aw_S} {P : aw_S → Prop} {s : Nat} (hx : TxC S B L) (h8 : S.1 94 8 = nI s) (h9 : S.1 94 9 = nI s) (hs : s ≤ L) (k : ∀ S', FrT S S' → TcR S' B (if spE B L cDg s - s ≤ 4 then 2 else 4, s, spE B L cDg s) → P S') : Sp l m_To_advanceNumber (d + 1) 0 0 [.ref 94] sh0 S (gV sh0 P) := by
  have hL := hx.2.2.1
  have key : ∀ m r S1, L - (s + r) ≤ m → s + r ≤ L → spE B L cDg (s + r) = spE B L cDg s → (∀ j, s ≤ j → j < s + r → 48 ≤ B j ∧ B j ≤ 57) → FrT S S1 → S1.1 94 8 = nI s → S1.1 94 9 = nI (s + r) → S1.1 94 4 = nI (if r ≤ 4 then nvL B s r else 0) → AW l m_To_advanceNumber (d + 1) 0 0 (gV sh0 P) 0 0 5 [.ref 94] [] sh0 S1 := by
    have fin : ∀ r S1, s + r ≤ L → spE B L cDg (s + r) = s + r → spE B L cDg (s + r) = spE B L cDg s → FrT S S1 → S1.1 94 8 = nI s → S1.1 94 9 = nI (s + r) → S1.1 94 4 = nI (if r ≤ 4 then nvL B s r else 0) → ((((S1.1 94 9) - (S1.1 94 8)) ≤ 4 → P (aw_uI S1 94 2 2)) ∧ (¬ ((S1.1 94 9) - (S1.1 94 8)) ≤ 4 → P (aw_uI S1 94 2 4))) := by
      intro r S1 h1 h2 h3 F e8 e9 e4
      rw [h2] at h3
      rw [← h3, show s + r - s = r by omega] at k
      rw [e8, e9, nI_sub (show s ≤ s + r by omega), show s + r - s = r by omega]
      refine ⟨fun z => k _ (F.uI _ (by omega)) ?_, fun z => k _ (F.uI _ (by omega)) ?_⟩
      · have z : r ≤ 4 := (nI_leI (b := 4) (by omega) (by omega)).mp z
        rw [if_pos z] at e4 ⊢
        refine ⟨by rw [uI_at, if_pos rfl, if_pos rfl]; rfl, by rw [uI_at, if_pos rfl, if_neg (by omega)]; exact e8, by rw [uI_at, if_pos rfl, if_neg (by omega)]; exact e9, fun y => absurd y (by decide : ¬ (2 : Nat) = 1), fun _ => ?_, fun y => absurd y (by decide : ¬ (2 : Nat) = 3)⟩
        rw [uI_at, if_pos rfl, if_neg (by omega), e4]
        show nI (nvL B s r) = nI (nvL B s (s + r - s))
        rw [show s + r - s = r by omega]
      · have z : ¬ r ≤ 4 := fun y => z (nI_le (b := 4) y (by omega))
        rw [if_neg z]
        exact ⟨by rw [uI_at, if_pos rfl, if_pos rfl]; rfl, by rw [uI_at, if_pos rfl, if_neg (by omega)]; exact e8, by rw [uI_at, if_pos rfl, if_neg (by omega)]; exact e9, fun y => absurd y (by decide : ¬ (4 : Nat) = 1), fun y => absurd y (by decide : ¬ (4 : Nat) = 2), fun y => absurd y (by decide : ¬ (4 : Nat) = 3)⟩
    intro m
    induction m with
    | zero =>
      intro r S1 hm h1 h3 hw F e8 e9 e4
      have h7 := (hx.fr F).2.1
      have hno : spE B L cDg (s + r) = s + r := spE_no (by omega)
      refine s_To_advanceNumber_5 rfl ⟨fun _ => fin r S1 h1 hno h3 F e8 e9 e4, fun z => absurd ?_ z⟩
      rw [h7, e9]
      exact nI_le (by omega) (by omega)
    | succ m ih =>
      intro r S1 hm h1 h3 hw F e8 e9 e4
      obtain ⟨x6, x7, -, xb⟩ := hx.fr F
      by_cases c : s + r < L
      · have hb := xb (s + r) c
        have g48 := hb.lt (c := 48) (by omega)
        have g57 := hb.gt (c := 57) (by omega)
        have hv : vp_in (nI (s + r)) 900 := vp_in_nI (by omega) (by omega)
        have fin' := fun (hno : spE B L cDg (s + r) = s + r) => fin r S1 h1 hno h3 F e8 e9 e4
        rw [e9, e8] at fin'
        refine s_To_advanceNumber_5 rfl ⟨fun z => absurd z ?_, fun _ => ⟨10, x6, 900, rfl, ?_⟩⟩
        · rw [x7, e9]
          exact nI_ge c (by omega)
        rw [e9, nI_clamp (by omega), e8]
        by_cases sm : cDg (B (s + r)) = true
        · have sm' : 48 ≤ B (s + r) ∧ B (s + r) ≤ 57 := by
            unfold cDg at sm
            rwa [decide_eq_true_iff] at sm
          have h3' : spE B L cDg (s + (r + 1)) = spE B L cDg s := by rw [← h3]; exact (spE_go c sm).symm
          have hw' : ∀ j, s ≤ j → j < s + (r + 1) → 48 ≤ B j ∧ B j ≤ 57 := fun j q1 q2 => by
            by_cases e : j = s + r
            · rw [e]; exact sm'
            · exact hw j q1 (by omega)
          have exn : S1.1 10 (s + r) = nI (B (s + r)) := hb.lo (by omega)
          refine ⟨hv, fun z => absurd (g48.mp z) (by omega), fun _ => ⟨hv, fun z => absurd (g57.mp z) (by omega), fun _ => ?_⟩⟩
          rw [nI_sub (show s ≤ s + r by omega), show s + r - s = r by omega]
          refine ⟨fun z => ?_, fun z => ⟨hv, ?_⟩⟩
          · have z : 4 ≤ r := (nI_leI (a := 4) (by omega) (by omega)).mp z
            refine ih (r + 1) _ (by omega) (by omega) h3' hw' ((F.uI _ (by omega)).uI _ (by omega)) ?_ ?_ ?_
            · rw [uI_at, if_pos rfl, if_neg (by omega), uI_at, if_pos rfl, if_neg (by omega)]; exact e8
            · rw [uI_at, if_pos rfl, if_pos rfl, uI_at, if_pos rfl, if_neg (by omega), e9, nI_1]; rfl
            · rw [uI_at, if_pos rfl, if_neg (by omega), uI_at, if_pos rfl, if_pos rfl, if_neg (by omega)]; rfl
          · have z : r < 4 := by
              have : ¬ 4 ≤ r := fun y => z (nI_le (a := 4) y (by omega))
              omega
            have lt := nvL_lt r hw
            have lt2 : (10 : Nat) ^ r ≤ 10 ^ 4 := Nat.pow_le_pow_right (by decide) (by omega)
            refine ih (r + 1) _ (by omega) (by omega) h3' hw' ((F.uI _ (by omega)).uI _ (by omega)) ?_ ?_ ?_
            · rw [uI_at, if_pos rfl, if_neg (by omega), uI_at, if_pos rfl, if_neg (by omega)]; exact e8
            · rw [uI_at, if_pos rfl, if_pos rfl, uI_at, if_pos rfl, if_neg (by omega), e9, nI_1]; rfl
            · rw [uI_at, if_pos rfl, if_neg (by omega), uI_at, if_pos rfl, if_pos rfl, if_pos (by omega), e4, if_pos (by omega), exn, show (10 : Int32) = nI 10 from rfl, pk_mul, nI_add, show (48 : Int32) = nI 48 from rfl, nI_sub (by omega)]
              congr 1
              show _ = nvL B s r * 10 + (B (s + r) - 48)
              omega
        · have hno : spE B L cDg (s + r) = s + r := spE_no (fun z => sm z.2)
          have sm' : ¬ (48 ≤ B (s + r) ∧ B (s + r) ≤ 57) := by
            unfold cDg at sm
            rwa [decide_eq_true_iff] at sm
          refine ⟨hv, fun _ => fin' hno, fun z => ⟨hv, fun _ => fin' hno, fun z2 => ?_⟩⟩
          exfalso
          have q1 : ¬ (B (s + r) < 48 ∨ 128 ≤ B (s + r)) := fun y => z (g48.mpr y)
          have q2 : ¬ (57 < B (s + r) ∧ B (s + r) < 128) := fun y => z2 (g57.mpr y)
          omega
      · have hno : spE B L cDg (s + r) = s + r := spE_no (by omega)
        refine s_To_advanceNumber_5 rfl ⟨fun _ => fin r S1 h1 hno h3 F e8 e9 e4, fun z => absurd ?_ z⟩
        rw [x7, e9]
        exact nI_le (by omega) (by omega)
  refine e_To_advanceNumber rfl (key L 0 _ (by omega) hs rfl (fun j q1 q2 => by omega) ((FrT.refl S).uI _ (by omega)) ?_ ?_ ?_)
  · rw [uI_at, if_pos rfl, if_neg (by omega)]; exact h8
  · rw [uI_at, if_pos rfl, if_neg (by omega)]; exact h9
  · rw [uI_at, if_pos rfl, if_pos rfl]; rfl
theorem sp_advance {S : aw_S} {P : aw_S → Prop} {q : Nat} (hx : TxC S B L) (h9 : S.1 94 9 = nI q) (hq : q ≤ L) (k : ∀ S', FrT S S' → TcR S' B (tkF B L q) → P S') : Sp l m_To_advance (d + 1 + 1) 0 0 [.ref 94] sh0 S (gV sh0 P) := by
  have hL := hx.2.2.1
  have h52 : ∀ s S1, spE B L cBl q = s → s ≤ L → FrT S S1 → S1.1 94 9 = nI s → AW l m_To_advance (d + 1 + 1) 0 0 (gV sh0 P) 0 0 52 [.ref 94] [] sh0 S1 := by
    intro s S1 hs hsL F e9
    have F2 : FrT S (aw_uI S1 94 8 (S1.1 94 9)) := F.uI _ (by omega)
    obtain ⟨x6, x7, -, xb⟩ := hx.fr F2
    have y8 : (aw_uI S1 94 8 (S1.1 94 9)).1 94 8 = nI s := by rw [uI_at, if_pos rfl, if_pos rfl]; exact e9
    have y9 : (aw_uI S1 94 8 (S1.1 94 9)).1 94 9 = nI s := by rw [uI_at, if_pos rfl, if_neg (by omega)]; exact e9
    refine s_To_advance_52 rfl ?_
    have hx2 := hx.fr F2
    generalize aw_uI S1 94 8 (S1.1 94 9) = U at F2 x6 x7 xb y8 y9 hx2
    rw [y9, x7]
    unfold tkF at k
    rw [hs] at k
    refine ⟨fun z => ?_, fun z => k _ (F2.uI _ (by omega)) ?_⟩
    · have z : s < L := (nI_ltI (by omega) (by omega)).mp z
      have hb := xb s z
      have g97 := hb.lt (c := 97) (by omega)
      have g122 := hb.gt (c := 122) (by omega)
      have g48 := hb.lt (c := 48) (by omega)
      have g57 := hb.gt (c := 57) (by omega)
      have hv : vp_in (nI s) 900 := vp_in_nI (by omega) (by omega)
      refine ⟨10, x6, 900, rfl, hv, ?_⟩
      rw [nI_clamp (by omega)]
      have h149 : ¬ cSm (B s) = true → ¬ cDg (B s) = true → AW l m_To_advance (d + 1 + 1) 0 0 (gV sh0 P) 0 0 149 [.ref 94] [] sh0 U := by
        intro a1 a2
        refine s_To_advance_149 rfl ⟨10, x6, 900, rfl, ?_⟩
        rw [y9, nI_clamp (by omega)]
        have e5 : (aw_uI (aw_uI U 94 5 (U.1 10 s)) 94 9 ((aw_uI U 94 5 (U.1 10 s)).1 94 9 + 1)).1 94 5 = U.1 10 s := by rw [uI_at, if_pos rfl, if_neg (by omega), uI_at, if_pos rfl, if_pos rfl]
        have w8 : (aw_uI (aw_uI U 94 5 (U.1 10 s)) 94 9 ((aw_uI U 94 5 (U.1 10 s)).1 94 9 + 1)).1 94 8 = nI s := by rw [uI_at, if_pos rfl, if_neg (by omega), uI_at, if_pos rfl, if_neg (by omega)]; exact y8
        have w9 : (aw_uI (aw_uI U 94 5 (U.1 10 s)) 94 9 ((aw_uI U 94 5 (U.1 10 s)).1 94 9 + 1)).1 94 9 = nI (s + 1) := by rw [uI_at, if_pos rfl, if_pos rfl, uI_at, if_pos rfl, if_neg (by omega), y9, nI_1]
        have F3 : FrT S (aw_uI (aw_uI U 94 5 (U.1 10 s)) 94 9 ((aw_uI U 94 5 (U.1 10 s)).1 94 9 + 1)) := (F2.uI _ (by omega)).uI _ (by omega)
        generalize aw_uI (aw_uI U 94 5 (U.1 10 s)) 94 9 ((aw_uI U 94 5 (U.1 10 s)).1 94 9 + 1) = V at e5 w8 w9 F3
        rw [e5]
        have yes : B s < 128 → cSg (B s) = true → P (aw_uI V 94 2 3) := by
          intro c1 c2
          rw [tk_s z a1 a2 c2] at k
          refine k _ (F3.uI _ (by omega)) ⟨by rw [uI_at, if_pos rfl, if_pos rfl]; rfl, by rw [uI_at, if_pos rfl, if_neg (by omega)]; exact w8, by rw [uI_at, if_pos rfl, if_neg (by omega)]; exact w9, fun y => absurd y (by decide : ¬ (3 : Nat) = 1), fun y => absurd y (by decide : ¬ (3 : Nat) = 2), fun _ => ?_⟩
          rw [uI_at, if_pos rfl, if_neg (by omega), e5]
          exact hb.lo c1
        have e59 := hb.eq (c := 59) (by omega)
        have e60 := hb.eq (c := 60) (by omega)
        have e61 := hb.eq (c := 61) (by omega)
        have e62 := hb.eq (c := 62) (by omega)
        have sg : ∀ c, (c = 59 ∨ c = 60 ∨ c = 61 ∨ c = 62) → B s = c → P (aw_uI V 94 2 3) := fun c hc e => yes (by omega) (by unfold cSg; rw [decide_eq_true_iff]; omega)
        refine ⟨hv, fun y => sg 59 (by omega) (e59.mp y), fun y1 => ⟨fun y => sg 60 (by omega) (e60.mp y), fun y2 => ⟨fun y => sg 62 (by omega) (e62.mp y), fun y3 => ⟨fun y4 => ?_, fun y => sg 61 (by omega) (e61.mp y)⟩⟩⟩⟩
        have no : ¬ cSg (B s) = true := by
          unfold cSg
          rw [decide_eq_true_iff]
          intro y
          rcases y with y | y | y | y
          · exact y1 (e59.mpr y)
          · exact y2 (e60.mpr y)
          · exact y4 (e61.mpr y)
          · exact y3 (e62.mpr y)
        rw [tk_b z a1 a2 no] at k
        exact k _ (F3.uI _ (by omega)) ⟨by rw [uI_at, if_pos rfl, if_pos rfl]; rfl, by rw [uI_at, if_pos rfl, if_neg (by omega)]; exact w8, by rw [uI_at, if_pos rfl, if_neg (by omega)]; exact w9, fun y => absurd y (by decide : ¬ (4 : Nat) = 1), fun y => absurd y (by decide : ¬ (4 : Nat) = 2), fun y => absurd y (by decide : ¬ (4 : Nat) = 3)⟩
      have h114 : ¬ cSm (B s) = true → AW l m_To_advance (d + 1 + 1) 0 0 (gV sh0 P) 0 0 114 [.ref 94] [] sh0 U := by
        intro a1
        have kk := k
        refine s_To_advance_114 rfl ⟨10, x6, 900, rfl, ?_⟩
        rw [y9, nI_clamp (by omega)]
        refine ⟨hv, fun y => h149 a1 ?_, fun y => ⟨hv, fun y2 => h149 a1 ?_, fun y2 => ?_⟩⟩
        · have := g48.mp y
          unfold cDg
          rw [decide_eq_true_iff]
          omega
        · have := g57.mp y2
          unfold cDg
          rw [decide_eq_true_iff]
          omega
        · have q1 : ¬ (B s < 48 ∨ 128 ≤ B s) := fun z => y (g48.mpr z)
          have q2 : ¬ (57 < B s ∧ B s < 128) := fun z => y2 (g57.mpr z)
          have dg : cDg (B s) = true := by
            unfold cDg
            rw [decide_eq_true_iff]
            omega
          rw [tk_n z a1 dg] at kk
          exact sp_advNumber hx2 y8 y9 hsL (fun S' F' T' => kk S' (F2.trans F') T')
      refine ⟨fun y => h114 ?_, fun y => ⟨hv, fun y2 => h114 ?_, fun y2 => ?_⟩⟩
      · have := g97.mp y
        unfold cSm
        rw [decide_eq_true_iff]
        omega
      · have := g122.mp y2
        unfold cSm
        rw [decide_eq_true_iff]
        omega
      · have q1 : ¬ (B s < 97 ∨ 128 ≤ B s) := fun z => y (g97.mpr z)
        have q2 : ¬ (122 < B s ∧ B s < 128) := fun z => y2 (g122.mpr z)
        have sm : cSm (B s) = true := by
          unfold cSm
          rw [decide_eq_true_iff]
          omega
        rw [tk_w z sm] at k
        exact sp_advWord hx2 y8 y9 hsL (fun S' F' T' => k S' (F2.trans F') T')
    · have z : L ≤ s := by
        have : ¬ s < L := fun y => z (nI_lt y (by omega))
        omega
      rw [tk_e z]
      exact ⟨by rw [uI_at, if_pos rfl, if_pos rfl]; rfl, by rw [uI_at, if_pos rfl, if_neg (by omega)]; exact y8, by rw [uI_at, if_pos rfl, if_neg (by omega)]; exact y9, fun y => absurd y (by decide : ¬ (0 : Nat) = 1), fun y => absurd y (by decide : ¬ (0 : Nat) = 2), fun y => absurd y (by decide : ¬ (0 : Nat) = 3)⟩
  have key : ∀ m r S1, L - r ≤ m → r ≤ L → spE B L cBl q = spE B L cBl r → FrT S S1 → S1.1 94 9 = nI r → AW l m_To_advance (d + 1 + 1) 0 0 (gV sh0 P) 0 0 0 [.ref 94] [] sh0 S1 := by
    intro m
    induction m with
    | zero =>
      intro r S1 hm h1 h3 F e9
      have h7 := (hx.fr F).2.1
      refine s_To_advance_0 rfl ⟨fun _ => h52 r S1 (by rw [h3, spE_no (by omega)]) h1 F e9, fun z => absurd ?_ z⟩
      rw [h7, e9]
      exact nI_le (by omega) (by omega)
    | succ m ih =>
      intro r S1 hm h1 h3 F e9
      obtain ⟨x6, x7, -, xb⟩ := hx.fr F
      by_cases c : r < L
      · have hb := xb r c
        have hv : vp_in (nI r) 900 := vp_in_nI (by omega) (by omega)
        have e10 := hb.eq (c := 10) (by omega)
        have e32 := hb.eq (c := 32) (by omega)
        refine s_To_advance_0 rfl ⟨fun z => absurd z ?_, fun _ => ⟨10, x6, 900, rfl, ?_⟩⟩
        · rw [x7, e9]
          exact nI_ge c (by omega)
        rw [e9, nI_clamp (by omega), nI_1]
        have go : cBl (B r) = true → AW l m_To_advance (d + 1 + 1) 0 0 (gV sh0 P) 0 0 0 [.ref 94] [] sh0 (aw_uI S1 94 9 (nI (r + 1))) := fun y => ih (r + 1) _ (by omega) (by omega) (by rw [h3, spE_go c y]) (F.uI _ (by omega)) (by rw [uI_at, if_pos rfl, if_pos rfl])
        refine ⟨hv, fun y => go ?_, fun y => ⟨hv, fun y2 => h52 r S1 ?_ h1 F e9, fun y2 => go ?_⟩⟩
        · unfold cBl
          rw [decide_eq_true_iff]
          exact Or.inl (e10.mp y)
        · rw [h3, spE_no]
          intro w
          have w2 := w.2
          unfold cBl at w2
          rw [decide_eq_true_iff] at w2
          rcases w2 with w2 | w2
          · exact y (e10.mpr w2)
          · exact y2 (e32.mpr w2)
        · unfold cBl
          rw [decide_eq_true_iff]
          exact Or.inr (e32.mp y2)
      · refine s_To_advance_0 rfl ⟨fun _ => h52 r S1 (by rw [h3, spE_no (by omega)]) h1 F e9, fun z => absurd ?_ z⟩
        rw [x7, e9]
        exact nI_le (by omega) (by omega)
  exact e_To_advance rfl (key L q S (by omega) hq rfl (FrT.refl S) h9)
end AD
