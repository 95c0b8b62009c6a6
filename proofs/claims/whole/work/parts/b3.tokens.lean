/-! tokens: the reference goes on -/
def kmN (k : Nat) : Nat := if k = 0 then 0 else if k = 1 then 2 else if k = 2 then 3 else if k = 3 then 4 else 1
def byN (B : Nat → Nat) (L j : Nat) : Int32 := if j < L then nI (B j) else -1
def AX (k j : Nat) : Prop := k = 114 ∧ 12 ≤ j ∧ j ≤ 15
def TmR (S : aw_S) (B : Nat → Nat) (t : TK) : Prop := S.1 114 12 = nI (kmN t.k) ∧ S.1 114 13 = nI t.b ∧ S.1 114 14 = nI t.e ∧ (t.k = 2 → S.1 114 15 = nI (nvL B t.b (t.e - t.b))) ∧ (t.k = 3 → S.1 114 15 = nI (B t.b))
def TxM (S : aw_S) (B : Nat → Nat) (L : Nat) : Prop := S.2.2 114 9 = some 121 ∧ S.1 114 11 = nI L ∧ L ≤ 900 ∧ ∀ j, j < L → S.1 121 j &&& 255 = nI (B j) ∧ B j < 256
theorem TxM.fr {S S' : aw_S} {B : Nat → Nat} {L : Nat} (h : TxM S B L) (F : FrI AX S S') : TxM S' B L := by
  obtain ⟨h1, h2, h3, h4⟩ := h
  refine ⟨by rw [F.R]; exact h1, (F.1 114 11 (by unfold AX; omega)).trans h2, h3, fun j hj => ?_⟩
  rw [F.1 121 j (by unfold AX; omega)]
  exact h4 j hj
section AH
variable {l : Launch} {d : Nat} {B : Nat → Nat} {L : Nat} {S : aw_S}
theorem sp_byteAt {P : Int32 → aw_S → Prop} {j : Nat} (hx : TxM S B L) (hj : j ≤ 2000) (k : P (byN B L j) S) : Sp l m_Md_byteAt (d + 1) 0 0 [.ref 114, .int (nI j)] sh0 S (gI sh0 P) := by
  obtain ⟨x9, x11, xL, xb⟩ := hx
  unfold byN at k
  refine e_Md_byteAt rfl ⟨fun z => ?_, fun z => ?_⟩
  · rw [x11] at z
    rw [if_neg (by have := (nI_leI (by omega) (by omega)).mp z; omega)] at k
    exact k
  · have c : j < L := by
      have : ¬ L ≤ j := fun y => z (by rw [x11]; exact nI_le y (by omega))
      omega
    rw [if_pos c] at k
    refine ⟨121, x9, 900, rfl, vp_in_nI (by omega) (by omega), ?_⟩
    rw [nI_clamp (by omega), (xb j c).1]
    exact k
theorem by_lt {j c : Nat} (hc : c < 2 ^ 31) (hb : j < L → B j < 256) : byN B L j < nI c ↔ ¬ (j < L ∧ c ≤ B j) := by
  unfold byN
  by_cases q : j < L
  · rw [if_pos q, nI_ltI (by have := hb q; omega) hc]
    exact ⟨fun z y => by omega, fun z => by have : ¬ c ≤ B j := fun y => z ⟨q, y⟩; omega⟩
  · rw [if_neg q]
    exact ⟨fun _ y => q y.1, fun _ => (i_neg m1_lt c hc).1⟩
theorem by_gt {j c : Nat} (hc : c < 2 ^ 31) (hb : j < L → B j < 256) : nI c < byN B L j ↔ j < L ∧ c < B j := by
  unfold byN
  by_cases q : j < L
  · rw [if_pos q, nI_ltI hc (by have := hb q; omega)]
    exact ⟨fun z => ⟨q, z⟩, fun z => z.2⟩
  · rw [if_neg q]
    exact ⟨fun z => absurd z (i_neg m1_lt c hc).2.2.1, fun z => absurd z.1 q⟩
theorem by_eq {j c : Nat} (hc : c < 2 ^ 31) (hb : j < L → B j < 256) : byN B L j = nI c ↔ j < L ∧ B j = c := by
  unfold byN
  by_cases q : j < L
  · rw [if_pos q, nI_inj (by have := hb q; omega) hc]
    exact ⟨fun z => ⟨q, z⟩, fun z => z.2⟩
  · rw [if_neg q]
    exact ⟨fun z => absurd z.symm (nI_ne_m1 hc), fun z => absurd z.1 q⟩
theorem by_m1 {j : Nat} (hb : j < L → B j < 256) : byN B L j = -1 ↔ ¬ j < L := by
  unfold byN
  by_cases q : j < L
  · rw [if_pos q]
    exact ⟨fun z => absurd z (nI_ne_m1 (by have := hb q; omega)), fun z => absurd q z⟩
  · rw [if_neg q]
    exact ⟨fun _ => q, fun _ => rfl⟩
theorem sp_isSmall {P : Int32 → aw_S → Prop} {j : Nat} (hb : j < L → B j < 256) (k1 : j < L → cSm (B j) = true → P 1 S) (k0 : ¬ (j < L ∧ cSm (B j) = true) → P 0 S) : Sp l m_Md_isSmall (d + 1) 0 0 [.int (byN B L j)] sh0 S (gI sh0 P) := by
  have g1 := by_lt (B := B) (L := L) (j := j) (c := 97) (by omega) hb
  have g2 := by_gt (B := B) (L := L) (j := j) (c := 122) (by omega) hb
  refine e_Md_isSmall ⟨fun z => k0 (fun y => ?_), fun z => ⟨fun z2 => k0 (fun y => ?_), fun z2 => ?_⟩⟩
  · have y2 := y.2
    unfold cSm at y2
    rw [decide_eq_true_iff] at y2
    exact g1.mp z ⟨y.1, y2.1⟩
  · have y2 := y.2
    unfold cSm at y2
    rw [decide_eq_true_iff] at y2
    have := (g2.mp z2).2
    omega
  · have a1 : j < L ∧ 97 ≤ B j := Classical.byContradiction (fun y => z (g1.mpr y))
    have a2 : ¬ (j < L ∧ 122 < B j) := fun y => z2 (g2.mpr y)
    refine k1 a1.1 ?_
    unfold cSm
    rw [decide_eq_true_iff]
    exact ⟨a1.2, Nat.not_lt.mp (fun y => a2 ⟨a1.1, y⟩)⟩
theorem sp_isDigit {P : Int32 → aw_S → Prop} {j : Nat} (hb : j < L → B j < 256) (k1 : j < L → cDg (B j) = true → P 1 S) (k0 : ¬ (j < L ∧ cDg (B j) = true) → P 0 S) : Sp l m_Md_isDigit (d + 1) 0 0 [.int (byN B L j)] sh0 S (gI sh0 P) := by
  have g1 := by_lt (B := B) (L := L) (j := j) (c := 48) (by omega) hb
  have g2 := by_gt (B := B) (L := L) (j := j) (c := 57) (by omega) hb
  refine e_Md_isDigit ⟨fun z => k0 (fun y => ?_), fun z => ⟨fun z2 => k0 (fun y => ?_), fun z2 => ?_⟩⟩
  · have y2 := y.2
    unfold cDg at y2
    rw [decide_eq_true_iff] at y2
    exact g1.mp z ⟨y.1, y2.1⟩
  · have y2 := y.2
    unfold cDg at y2
    rw [decide_eq_true_iff] at y2
    have := (g2.mp z2).2
    omega
  · have a1 : j < L ∧ 48 ≤ B j := Classical.byContradiction (fun y => z (g1.mpr y))
    have a2 : ¬ (j < L ∧ 57 < B j) := fun y => z2 (g2.mpr y)
    refine k1 a1.1 ?_
    unfold cDg
    rw [decide_eq_true_iff]
    exact ⟨a1.2, Nat.not_lt.mp (fun y => a2 ⟨a1.1, y⟩)⟩
theorem sp_ahead {P : aw_S → Prop} {q : Nat} (hx : TxM S B L) (h14 : S.1 114 14 = nI q) (hq : q ≤ L) (k : ∀ S', FrI AX S S' → TmR S' B (tkF B L q) → P S') : Sp l m_Md_ahead (d + 1 + 1) 0 0 [.ref 114] sh0 S (gV sh0 P) := by
  have hL := hx.2.2.1
  have hb : ∀ j, j < L → B j < 256 := fun j hj => (hx.2.2.2 j hj).2
  have h81 : ∀ s, s ≤ L → (∀ S', FrI AX S S' → TmR S' B (1, s, spE B L cSm s) → P S') → ∀ m r S1, L - r ≤ m → r ≤ L → spE B L cSm r = spE B L cSm s → FrI AX S S1 → S1.1 114 13 = nI s → S1.1 114 14 = nI r → AW l m_Md_ahead (d + 1 + 1) 0 0 (gV sh0 P) 0 0 81 [.ref 114, .null] [] sh0 S1 := by
    intro s hs k1 m
    have fin : ∀ r S1, r ≤ L → spE B L cSm r = spE B L cSm s → spE B L cSm r = r → FrI AX S S1 → S1.1 114 13 = nI s → S1.1 114 14 = nI r → P (aw_uI S1 114 12 2) := by
      intro r S1 h1 h2 h3 F e13 e14
      refine k1 _ (F.uI _ ⟨rfl, by omega, by omega⟩) ⟨by rw [uI_at, if_pos rfl, if_pos rfl]; rfl, by rw [uI_at, if_pos rfl, if_neg (by omega)]; exact e13, ?_, fun y => absurd y (by decide : ¬ (1 : Nat) = 2), fun y => absurd y (by decide : ¬ (1 : Nat) = 3)⟩
      rw [uI_at, if_pos rfl, if_neg (by omega), e14]
      show nI r = nI (spE B L cSm s)
      rw [← h2, h3]
    induction m with
    | zero =>
      intro r S1 hm h1 h2 F e13 e14
      refine s_Md_ahead_81 rfl ?_
      rw [e14]
      refine sp_byteAt (hx.fr F) (by omega) (sp_isSmall (hb r) (fun z => absurd z (by omega)) (fun _ => ⟨fun _ => fin r S1 h1 h2 (spE_no (by omega)) F e13 e14, fun z => absurd rfl z⟩))
    | succ m ih =>
      intro r S1 hm h1 h2 F e13 e14
      refine s_Md_ahead_81 rfl ?_
      rw [e14]
      refine sp_byteAt (hx.fr F) (by omega) (sp_isSmall (hb r) (fun z y => ⟨fun w => absurd w (by decide), fun _ => ?_⟩) (fun z => ⟨fun _ => fin r S1 h1 h2 (spE_no z) F e13 e14, fun w => absurd rfl w⟩))
      rw [e14, nI_1]
      exact ih (r + 1) _ (by omega) (by omega) (by rw [← h2, spE_go z y]) (F.uI _ ⟨rfl, by omega, by omega⟩) (by rw [uI_at, if_pos rfl, if_neg (by omega)]; exact e13) (by rw [uI_at, if_pos rfl, if_pos rfl])
  have h128 : ∀ s, s ≤ L → (∀ S', FrI AX S S' → TmR S' B (if spE B L cDg s - s ≤ 4 then 2 else 4, s, spE B L cDg s) → P S') → ∀ m r S1, L - (s + r) ≤ m → s + r ≤ L → spE B L cDg (s + r) = spE B L cDg s → (∀ j, s ≤ j → j < s + r → 48 ≤ B j ∧ B j ≤ 57) → FrI AX S S1 → S1.1 114 13 = nI s → S1.1 114 14 = nI (s + r) → (∃ x, x ≤ 100000 ∧ S1.1 114 15 = nI x ∧ (r ≤ 4 → x = nvL B s r)) → AW l m_Md_ahead (d + 1 + 1) 0 0 (gV sh0 P) 0 0 128 [.ref 114, .null] [] sh0 S1 := by
    intro s hs k1 m
    have fin : ∀ r S1, s + r ≤ L → spE B L cDg (s + r) = spE B L cDg s → spE B L cDg (s + r) = s + r → FrI AX S S1 → S1.1 114 13 = nI s → S1.1 114 14 = nI (s + r) → (∃ x, x ≤ 100000 ∧ S1.1 114 15 = nI x ∧ (r ≤ 4 → x = nvL B s r)) → ((((S1.1 114 14) - (S1.1 114 13)) ≤ 4 → P (aw_uI S1 114 12 3)) ∧ (¬ ((S1.1 114 14) - (S1.1 114 13)) ≤ 4 → P (aw_uI S1 114 12 1))) := by
      intro r S1 h1 h2 h3 F e13 e14 ⟨x, x1, x2, x3⟩
      have k1 := k1
      rw [← h2, h3, show s + r - s = r by omega] at k1
      rw [e13, e14, nI_sub (show s ≤ s + r by omega), show s + r - s = r by omega]
      refine ⟨fun z => k1 _ (F.uI _ ⟨rfl, by omega, by omega⟩) ?_, fun z => k1 _ (F.uI _ ⟨rfl, by omega, by omega⟩) ?_⟩
      · have z : r ≤ 4 := (nI_leI (b := 4) (by omega) (by omega)).mp z
        rw [if_pos z]
        refine ⟨by rw [uI_at, if_pos rfl, if_pos rfl]; rfl, by rw [uI_at, if_pos rfl, if_neg (by omega)]; exact e13, by rw [uI_at, if_pos rfl, if_neg (by omega)]; exact e14, fun _ => ?_, fun y => absurd y (by decide : ¬ (2 : Nat) = 3)⟩
        rw [uI_at, if_pos rfl, if_neg (by omega), x2, x3 z]
        show nI (nvL B s r) = nI (nvL B s (s + r - s))
        rw [show s + r - s = r by omega]
      · have z : ¬ r ≤ 4 := fun y => z (nI_le (b := 4) y (by omega))
        rw [if_neg z]
        exact ⟨by rw [uI_at, if_pos rfl, if_pos rfl]; rfl, by rw [uI_at, if_pos rfl, if_neg (by omega)]; exact e13, by rw [uI_at, if_pos rfl, if_neg (by omega)]; exact e14, fun y => absurd y (by decide : ¬ (4 : Nat) = 2), fun y => absurd y (by decide : ¬ (4 : Nat) = 3)⟩
    induction m with
    | zero =>
      intro r S1 hm h1 h2 hw F e13 e14 hx4
      refine s_Md_ahead_128 rfl ?_
      rw [e14]
      have fn := fin r S1 h1 h2 (spE_no (by omega)) F e13 e14 hx4
      rw [e14] at fn
      refine sp_byteAt (hx.fr F) (by omega) (sp_isDigit (hb (s + r)) (fun z => absurd z (by omega)) (fun _ => ⟨fun _ => ?_, fun z => absurd rfl z⟩))
      rw [e14]
      exact fn
    | succ m ih =>
      intro r S1 hm h1 h2 hw F e13 e14 hx4
      refine s_Md_ahead_128 rfl ?_
      rw [e14]
      refine sp_byteAt (hx.fr F) (by omega) (sp_isDigit (hb (s + r)) (fun z y => ⟨fun w => absurd w (by decide), fun _ => ?_⟩) (fun z => ⟨fun _ => fin r S1 h1 h2 (spE_no z) F e13 e14 hx4, fun w => absurd rfl w⟩))
      rw [e14]
      have y' : 48 ≤ B (s + r) ∧ B (s + r) ≤ 57 := by
        unfold cDg at y
        rwa [decide_eq_true_iff] at y
      obtain ⟨x, x1, x2, x3⟩ := hx4
      refine sp_byteAt (hx.fr F) (by omega) ?_
      have eb : byN B L (s + r) = nI (B (s + r)) := if_pos z
      rw [eb, x2, show (10 : Int32) = nI 10 from rfl, pk_mul, nI_add, show (48 : Int32) = nI 48 from rfl, nI_sub (by omega)]
      refine sp_min ?_
      have hw' : ∀ j, s ≤ j → j < s + (r + 1) → 48 ≤ B j ∧ B j ≤ 57 := fun j q1 q2 => by
        by_cases e : j = s + r
        · rw [e]; exact y'
        · exact hw j q1 (by omega)
      have ev : ∃ x', x' ≤ 100000 ∧ (if nI (10 * x + B (s + r) - 48) < 100000 then nI (10 * x + B (s + r) - 48) else 100000) = nI x' ∧ (r + 1 ≤ 4 → x' = nvL B s (r + 1)) := by
        by_cases q : 10 * x + B (s + r) - 48 < 100000
        · refine ⟨10 * x + B (s + r) - 48, by omega, if_pos (nI_lt (b := 100000) q (by omega)), fun hr => ?_⟩
          rw [x3 (by omega)]
          show _ = nvL B s r * 10 + (B (s + r) - 48)
          omega
        · refine ⟨100000, by omega, if_neg (nI_nlt (b := 100000) (by omega) (by omega)), fun hr => ?_⟩
          exfalso
          have lt := nvL_lt r hw
          have lt2 : (10 : Nat) ^ r ≤ 10 ^ 3 := Nat.pow_le_pow_right (by decide) (by omega)
          rw [x3 (by omega)] at q
          omega
      obtain ⟨x', a1, a2, a3⟩ := ev
      rw [a2]
      refine ih (r + 1) _ (by omega) (by omega) (by rw [← h2, spE_go z y]; rfl) hw' ((F.uI _ ⟨rfl, by omega, by omega⟩).uI _ ⟨rfl, by omega, by omega⟩) ?_ ?_ ⟨x', a1, ?_, a3⟩
      · rw [uI_at, if_pos rfl, if_neg (by omega), uI_at, if_pos rfl, if_neg (by omega)]; exact e13
      · rw [uI_at, if_pos rfl, if_pos rfl, uI_at, if_pos rfl, if_neg (by omega), e14, nI_1]; rfl
      · rw [uI_at, if_pos rfl, if_neg (by omega), uI_at, if_pos rfl, if_pos rfl]
  have key : ∀ m r S1, L - r ≤ m → r ≤ L → spE B L cBl q = spE B L cBl r → FrI AX S S1 → S1.1 114 14 = nI r → AW l m_Md_ahead (d + 1 + 1) 0 0 (gV sh0 P) 0 0 0 [.ref 114, .null] [] sh0 S1 := by
    intro m
    induction m with
    | zero =>
      intro r S1 hm h1 h3 F e14
      have e10 := by_eq (B := B) (L := L) (j := r) (c := 10) (by omega) (hb r)
      have e32 := by_eq (B := B) (L := L) (j := r) (c := 32) (by omega) (hb r)
      have em := by_m1 (B := B) (L := L) (j := r) (hb r)
      have hs : spE B L cBl q = r := by rw [h3, spE_no (by omega)]
      have k := k
      unfold tkF at k
      rw [hs, tk_e (show L ≤ r by omega)] at k
      refine s_Md_ahead_0 rfl ?_
      rw [e14]
      refine sp_byteAt (hx.fr F) (by omega) ⟨fun z => absurd (e32.mp z).1 (by omega), fun _ => ?_⟩
      rw [e14]
      refine sp_byteAt (hx.fr F) (by omega) ⟨fun _ => ?_, fun z => absurd (e10.mp z).1 (by omega)⟩
      rw [e14]
      have y14 : (aw_uI S1 114 13 (nI r)).1 114 14 = nI r := by rw [uI_at, if_pos rfl, if_neg (by omega)]; exact e14
      have F2 : FrI AX S (aw_uI S1 114 13 (nI r)) := F.uI _ ⟨rfl, by omega, by omega⟩
      rw [y14]
      refine sp_byteAt (hx.fr F2) (by omega) ⟨fun z => absurd (em.mpr (by omega)) z, fun _ => k _ ((F2.uI _ ⟨rfl, by omega, by omega⟩).uI _ ⟨rfl, by omega, by omega⟩) ⟨?_, ?_, ?_, fun y => absurd y (by decide : ¬ (0 : Nat) = 2), fun y => absurd y (by decide : ¬ (0 : Nat) = 3)⟩⟩
      · rw [uI_at, if_pos rfl, if_pos rfl]; rfl
      · rw [uI_at, if_pos rfl, if_neg (by omega), uI_at, if_pos rfl, if_neg (by omega), uI_at, if_pos rfl, if_pos rfl]
      · rw [uI_at, if_pos rfl, if_neg (by omega), uI_at, if_pos rfl, if_neg (by omega)]; exact y14
    | succ m ih =>
      intro r S1 hm h1 h3 F e14
      have e10 := by_eq (B := B) (L := L) (j := r) (c := 10) (by omega) (hb r)
      have e32 := by_eq (B := B) (L := L) (j := r) (c := 32) (by omega) (hb r)
      have em := by_m1 (B := B) (L := L) (j := r) (hb r)
      have go : r < L → cBl (B r) = true → AW l m_Md_ahead (d + 1 + 1) 0 0 (gV sh0 P) 0 0 0 [.ref 114, .null] [] sh0 (aw_uI S1 114 14 (nI (r + 1))) := fun y1 y2 => ih (r + 1) _ (by omega) (by omega) (by rw [h3, spE_go y1 y2]) (F.uI _ ⟨rfl, by omega, by omega⟩) (by rw [uI_at, if_pos rfl, if_pos rfl])
      refine s_Md_ahead_0 rfl ?_
      rw [e14]
      refine sp_byteAt (hx.fr F) (by omega) ⟨fun z => ?_, fun n32 => ?_⟩
      · rw [e14, nI_1]
        refine go (e32.mp z).1 ?_
        unfold cBl
        rw [decide_eq_true_iff]
        exact Or.inr (e32.mp z).2
      rw [e14]
      refine sp_byteAt (hx.fr F) (by omega) ⟨fun n10 => ?_, fun z => ?_⟩
      · rw [e14]
        have y13 : (aw_uI S1 114 13 (nI r)).1 114 13 = nI r := by rw [uI_at, if_pos rfl, if_pos rfl]
        have y14 : (aw_uI S1 114 13 (nI r)).1 114 14 = nI r := by rw [uI_at, if_pos rfl, if_neg (by omega)]; exact e14
        have F2 : FrI AX S (aw_uI S1 114 13 (nI r)) := F.uI _ ⟨rfl, by omega, by omega⟩
        have hs : spE B L cBl q = r := by
          rw [h3, spE_no]
          intro w
          have w2 := w.2
          unfold cBl at w2
          rw [decide_eq_true_iff] at w2
          rcases w2 with w2 | w2
          · exact n10 (e10.mpr ⟨w.1, w2⟩)
          · exact n32 (e32.mpr ⟨w.1, w2⟩)
        have k := k
        unfold tkF at k
        rw [hs] at k
        rw [y14]
        refine sp_byteAt (hx.fr F2) (by omega) ⟨fun z => ?_, fun z => ?_⟩
        · have c : r < L := Classical.byContradiction (fun y => z (em.mpr y))
          have F3 : FrI AX S (aw_uI (aw_uI S1 114 13 (nI r)) 114 15 (byN B L r)) := F2.uI _ ⟨rfl, by omega, by omega⟩
          have w13 : (aw_uI (aw_uI S1 114 13 (nI r)) 114 15 (byN B L r)).1 114 13 = nI r := by rw [uI_at, if_pos rfl, if_neg (by omega)]; exact y13
          have w14 : (aw_uI (aw_uI S1 114 13 (nI r)) 114 15 (byN B L r)).1 114 14 = nI r := by rw [uI_at, if_pos rfl, if_neg (by omega)]; exact y14
          have w15 : (aw_uI (aw_uI S1 114 13 (nI r)) 114 15 (byN B L r)).1 114 15 = nI (B r) := by rw [uI_at, if_pos rfl, if_pos rfl]; exact if_pos c
          generalize aw_uI (aw_uI S1 114 13 (nI r)) 114 15 (byN B L r) = U at F3 w13 w14 w15
          refine sp_isSmall (hb r) (fun _ sm => ⟨fun w => absurd w (by decide), fun _ => ?_⟩) (fun ns => ⟨fun _ => ?_, fun w => absurd rfl w⟩)
          · rw [tk_w c sm] at k
            exact h81 r h1 k L r U (by omega) h1 rfl F3 w13 w14
          · have ns : ¬ cSm (B r) = true := fun y => ns ⟨c, y⟩
            refine sp_isDigit (hb r) (fun _ dg => ⟨fun w => absurd w (by decide), fun _ => ?_⟩) (fun nd => ⟨fun _ => ?_, fun w => absurd rfl w⟩)
            · rw [tk_n c ns dg] at k
              refine h128 r h1 k L 0 _ (by omega) h1 rfl (fun j q1 q2 => by omega) (F3.uI _ ⟨rfl, by omega, by omega⟩) ?_ ?_ ⟨0, by omega, ?_, fun _ => rfl⟩
              · rw [uI_at, if_pos rfl, if_neg (by omega)]; exact w13
              · rw [uI_at, if_pos rfl, if_neg (by omega)]; exact w14
              · rw [uI_at, if_pos rfl, if_pos rfl]; rfl
            · have nd : ¬ cDg (B r) = true := fun y => nd ⟨c, y⟩
              rw [w14, nI_1]
              have F4 : FrI AX S (aw_uI U 114 14 (nI (r + 1))) := F3.uI _ ⟨rfl, by omega, by omega⟩
              have yes : cSg (B r) = true → P (aw_uI (aw_uI U 114 14 (nI (r + 1))) 114 12 4) := by
                intro c2
                rw [tk_s c ns nd c2] at k
                refine k _ (F4.uI _ ⟨rfl, by omega, by omega⟩) ⟨by rw [uI_at, if_pos rfl, if_pos rfl]; rfl, ?_, ?_, fun y => absurd y (by decide : ¬ (3 : Nat) = 2), fun _ => ?_⟩
                · rw [uI_at, if_pos rfl, if_neg (by omega), uI_at, if_pos rfl, if_neg (by omega)]; exact w13
                · rw [uI_at, if_pos rfl, if_neg (by omega), uI_at, if_pos rfl, if_pos rfl]
                · rw [uI_at, if_pos rfl, if_neg (by omega), uI_at, if_pos rfl, if_neg (by omega)]; exact w15
              have e59 := by_eq (B := B) (L := L) (j := r) (c := 59) (by omega) (hb r)
              have e60 := by_eq (B := B) (L := L) (j := r) (c := 60) (by omega) (hb r)
              have e61 := by_eq (B := B) (L := L) (j := r) (c := 61) (by omega) (hb r)
              have e62 := by_eq (B := B) (L := L) (j := r) (c := 62) (by omega) (hb r)
              have sg : ∀ c', (c' = 59 ∨ c' = 60 ∨ c' = 61 ∨ c' = 62) → B r = c' → P (aw_uI (aw_uI U 114 14 (nI (r + 1))) 114 12 4) := fun c' hc e => yes (by unfold cSg; rw [decide_eq_true_iff]; omega)
              refine ⟨fun y => sg 59 (by omega) (e59.mp y).2, fun y1 => ⟨fun y => sg 60 (by omega) (e60.mp y).2, fun y2 => ⟨fun y => sg 62 (by omega) (e62.mp y).2, fun y3 => ⟨fun y4 => ?_, fun y => sg 61 (by omega) (e61.mp y).2⟩⟩⟩⟩
              have no : ¬ cSg (B r) = true := by
                unfold cSg
                rw [decide_eq_true_iff]
                intro y
                rcases y with y | y | y | y
                · exact y1 (e59.mpr ⟨c, y⟩)
                · exact y2 (e60.mpr ⟨c, y⟩)
                · exact y4 (e61.mpr ⟨c, y⟩)
                · exact y3 (e62.mpr ⟨c, y⟩)
              rw [tk_b c ns nd no] at k
              refine k _ (F4.uI _ ⟨rfl, by omega, by omega⟩) ⟨by rw [uI_at, if_pos rfl, if_pos rfl]; rfl, ?_, ?_, fun y => absurd y (by decide : ¬ (4 : Nat) = 2), fun y => absurd y (by decide : ¬ (4 : Nat) = 3)⟩
              · rw [uI_at, if_pos rfl, if_neg (by omega), uI_at, if_pos rfl, if_neg (by omega)]; exact w13
              · rw [uI_at, if_pos rfl, if_neg (by omega), uI_at, if_pos rfl, if_pos rfl]
        · have c : ¬ r < L := em.mp z
          rw [tk_e (show L ≤ r by omega)] at k
          refine k _ ((F2.uI _ ⟨rfl, by omega, by omega⟩).uI _ ⟨rfl, by omega, by omega⟩) ⟨?_, ?_, ?_, fun y => absurd y (by decide : ¬ (0 : Nat) = 2), fun y => absurd y (by decide : ¬ (0 : Nat) = 3)⟩
          · rw [uI_at, if_pos rfl, if_pos rfl]; rfl
          · rw [uI_at, if_pos rfl, if_neg (by omega), uI_at, if_pos rfl, if_neg (by omega)]; exact y13
          · rw [uI_at, if_pos rfl, if_neg (by omega), uI_at, if_pos rfl, if_neg (by omega)]; exact y14
      · rw [e14, nI_1]
        refine go (e10.mp z).1 ?_
        unfold cBl
        rw [decide_eq_true_iff]
        exact Or.inl (e10.mp z).2
  exact e_Md_ahead rfl (key L q S (by omega) hq rfl (FrI.refl _ S) h14)
end AH
