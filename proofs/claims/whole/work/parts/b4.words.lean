/-! the words that are none's name -/
/-- the words, their last letters first, in the class's order -/
def kwT : List (List Nat) := [[115, 100, 100, 111], [103, 110, 111, 108], [114, 101, 99, 110, 97, 100], [114, 117, 111, 108, 111, 99], [115, 115, 97, 112], [114, 101, 118, 111], [114, 101, 100, 110, 117], [107, 99, 97, 98], [101, 118, 97, 101, 119], [116, 110, 105, 97, 112], [121, 110, 97], [110, 101, 104, 119], [101, 109, 111, 104], [116, 97], [115, 119, 111, 104, 115], [116, 105, 97, 108, 112], [112, 111, 111, 108], [100, 110, 101], [112, 111, 116, 115]]
def kwN (i : Nat) : List Nat := kwT.getD i []
/-- the reference's order: its numbers in the class's, the class's in its; where its words begin -/
def pcM (i : Nat) : Nat := [0, 1, 2, 4, 3, 5, 6, 7, 8, 9, 10, 11, 16, 17, 18, 12, 13, 14, 15].getD i 0
def pmN (i : Nat) : Nat := [0, 1, 2, 4, 3, 5, 6, 7, 8, 9, 10, 11, 15, 16, 17, 18, 12, 13, 14].getD i 0
def psN (i : Nat) : Nat := [1, 6, 11, 18, 23, 30, 35, 41, 46, 52, 58, 62, 67, 72, 76, 81, 86, 89, 95, 101].getD i 0
def csN (i : Nat) : Nat := (aw_cs 2).getD i 0
def rwG (w : List Nat) : Nat → Nat → Option Nat
  | 0, _ => none
  | j + 1, i => if kwN i = w then some i else rwG w j (i + 1)
/-- which of them a word is -/
def rwW (w : List Nat) : Option Nat := rwG w 19 0
theorem kw_ne : ∀ i, i < 19 → ∀ j, j < 19 → kwN i = kwN j → i = j := by decide +kernel
theorem kw_ok : ∀ i, i < 19 → 0 < (kwN i).length ∧ (kwN i).length ≤ 6 ∧ ∀ c ∈ kwN i, 97 ≤ c ∧ c ≤ 122 := by decide +kernel
theorem kw_tb : ∀ i, i < 19 → (E_To_init aw_S0 94 95).2.1 95 i = lN (p5 (kwN i)) := by decide +kernel
theorem pc_ok : ∀ i, i < 19 → pcM i < 19 ∧ pmN (pcM i) = i ∧ pmN i < 19 ∧ pcM (pmN i) = i ∧ wdL csN (psN i) (psN (i + 1) - 1 - psN i) = kwN (pcM i) := by decide +kernel
theorem ps_ok2 : ∀ i, i < 19 → psN i < psN (i + 1) - 1 ∧ psN (i + 1) ≤ (aw_cs 2).length ∧ psN (i + 1) < 200 ∧ csN (psN (i + 1) - 1) = 32 ∧ ∀ j, j < psN (i + 1) - 1 - psN i → csN (psN i + j) ≠ 32 ∧ csN (psN i + j) < 128 := by decide +kernel
theorem ps_19 : psN 19 = (aw_cs 2).length := by decide +kernel
theorem ps_0' : psN 0 = 1 := by decide +kernel
theorem rwG_some {w : List Nat} : ∀ j i k, rwG w j i = some k → i ≤ k ∧ k < i + j ∧ kwN k = w := by
  intro j
  induction j with
  | zero => intro i k h; cases h
  | succ j ih =>
    intro i k h
    unfold rwG at h
    by_cases c : kwN i = w
    · rw [if_pos c] at h
      have e : i = k := Option.some.inj h
      subst e
      exact ⟨Nat.le_refl _, by omega, c⟩
    · rw [if_neg c] at h
      have := ih (i + 1) k h
      exact ⟨by omega, by omega, this.2.2⟩
theorem rwG_none {w : List Nat} : ∀ j i, rwG w j i = none → ∀ k, i ≤ k → k < i + j → kwN k ≠ w := by
  intro j
  induction j with
  | zero => intro i _ k h1 h2; omega
  | succ j ih =>
    intro i h k h1 h2
    unfold rwG at h
    by_cases c : kwN i = w
    · rw [if_pos c] at h
      cases h
    · rw [if_neg c] at h
      by_cases e : k = i
      · rw [e]; exact c
      · exact ih (i + 1) h k (by omega) (by omega)
theorem rw_is {w : List Nat} {k : Nat} (hk : k < 19) (h : kwN k = w) : rwW w = some k := by
  cases e : rwW w with
  | none => exact absurd h (rwG_none 19 0 e k (Nat.zero_le _) (by omega))
  | some i =>
    have := rwG_some 19 0 i e
    rw [kw_ne i (by omega) k hk (this.2.2.trans h.symm)]
theorem rw_no {w : List Nat} (h : ∀ k, k < 19 → kwN k ≠ w) : rwW w = none := by
  cases e : rwW w with
  | none => rfl
  | some i =>
    have := rwG_some 19 0 i e
    exact absurd this.2.2 (h i (by omega))
theorem rw_lt {w : List Nat} {k : Nat} (h : rwW w = some k) : k < 19 ∧ kwN k = w := by
  have := rwG_some 19 0 k h
  exact ⟨by omega, this.2.2⟩
theorem p5_pos {w : List Nat} (h : 0 < w.length) (hw : ∀ c ∈ w, 97 ≤ c ∧ c ≤ 122) : 0 < p5 w := by
  cases w with
  | nil => exact absurd h (Nat.lt_irrefl _)
  | cons c w =>
    have := hw c List.mem_cons_self
    show 0 < p5 w * 32 + (c - 96)
    omega
theorem p5_inj : ∀ w w' : List Nat, (∀ c ∈ w, 97 ≤ c ∧ c ≤ 122) → (∀ c ∈ w', 97 ≤ c ∧ c ≤ 122) → p5 w = p5 w' → w = w' := by
  intro w
  induction w with
  | nil =>
    intro w' _ h' e
    cases w' with
    | nil => rfl
    | cons c w' =>
      have := p5_pos (w := c :: w') (Nat.succ_pos _) h'
      rw [← e] at this
      exact absurd this (Nat.lt_irrefl 0)
  | cons c w ih =>
    intro w' h h' e
    cases w' with
    | nil =>
      have := p5_pos (w := c :: w) (Nat.succ_pos _) h
      rw [e] at this
      exact absurd this (Nat.lt_irrefl 0)
    | cons c' w' =>
      have a1 := h c List.mem_cons_self
      have a2 := h' c' List.mem_cons_self
      have e : p5 w * 32 + (c - 96) = p5 w' * 32 + (c' - 96) := e
      have e1 : c = c' := by omega
      have e2 : p5 w = p5 w' := by omega
      rw [e1, ih w' (fun x hx => h x (List.mem_cons_of_mem _ hx)) (fun x hx => h' x (List.mem_cons_of_mem _ hx)) e2]
theorem p8_lt : ∀ w : List Nat, (∀ c ∈ w, 97 ≤ c ∧ c ≤ 122) → 2 * p8 w < 256 ^ w.length := by
  intro w
  induction w with
  | nil => intro _; decide
  | cons c w ih =>
    intro h
    have h1 := ih (fun x hx => h x (List.mem_cons_of_mem _ hx))
    have h2 := h c List.mem_cons_self
    show 2 * (p8 w * 256 + c) < 256 ^ (w.length + 1)
    rw [Nat.pow_succ]
    omega
theorem p8_inj : ∀ w w' : List Nat, (∀ c ∈ w, 97 ≤ c ∧ c ≤ 122) → (∀ c ∈ w', 97 ≤ c ∧ c ≤ 122) → p8 w = p8 w' → w = w' := by
  intro w
  induction w with
  | nil =>
    intro w' _ h' e
    cases w' with
    | nil => rfl
    | cons c w' =>
      have := h' c List.mem_cons_self
      have e : 0 = p8 w' * 256 + c := e
      omega
  | cons c w ih =>
    intro w' h h' e
    cases w' with
    | nil =>
      have := h c List.mem_cons_self
      have e : p8 w * 256 + c = 0 := e
      omega
    | cons c' w' =>
      have a1 := h c List.mem_cons_self
      have a2 := h' c' List.mem_cons_self
      have e : p8 w * 256 + c = p8 w' * 256 + c' := e
      have e1 : c = c' := by omega
      have e2 : p8 w = p8 w' := by omega
      rw [e1, ih w' (fun x hx => h x (List.mem_cons_of_mem _ hx)) (fun x hx => h' x (List.mem_cons_of_mem _ hx)) e2]
theorem p5_40 {w : List Nat} (hl : w.length ≤ 8) (hw : ∀ c ∈ w, 97 ≤ c ∧ c ≤ 122) : p5 w < 2 ^ 40 := by
  have h1 := p5_lt w hw
  have h2 : (32 : Nat) ^ w.length ≤ 32 ^ 8 := Nat.pow_le_pow_right (by decide) hl
  omega
theorem p8_63 {w : List Nat} (hl : w.length ≤ 8) (hw : ∀ c ∈ w, 97 ≤ c ∧ c ≤ 122) : p8 w < 2 ^ 63 := by
  have h1 := p8_lt w hw
  have h2 : (256 : Nat) ^ w.length ≤ 256 ^ 8 := Nat.pow_le_pow_right (by decide) hl
  omega
theorem wdL_eq {B C : Nat → Nat} {s p : Nat} : ∀ k, wdL B s k = wdL C p k ↔ ∀ i, i < k → B (s + i) = C (p + i) := by
  intro k
  induction k with
  | zero => exact ⟨fun _ i h => absurd h (Nat.not_lt_zero i), fun _ => rfl⟩
  | succ k ih =>
    refine ⟨fun h i hi => ?_, fun h => ?_⟩
    · have h : B (s + k) :: wdL B s k = C (p + k) :: wdL C p k := h
      injection h with h1 h2
      by_cases e : i = k
      · rw [e]; exact h1
      · exact ih.mp h2 i (by omega)
    · show B (s + k) :: wdL B s k = C (p + k) :: wdL C p k
      rw [h k (by omega), ih.mpr (fun i hi => h i (by omega))]
/-- a token as it is read -/
def TkW (B : Nat → Nat) (L : Nat) (t : TK) : Prop := t.b ≤ t.e ∧ t.e ≤ L ∧ t.k ≤ 4 ∧ (t.k ≠ 0 → t.b < t.e) ∧ (t.k = 1 → ∀ j, t.b ≤ j → j < t.e → 97 ≤ B j ∧ B j ≤ 122) ∧ (t.k = 2 → t.e - t.b ≤ 4 ∧ ∀ j, t.b ≤ j → j < t.e → 48 ≤ B j ∧ B j ≤ 57) ∧ (t.k = 3 → B t.b = 59 ∨ B t.b = 60 ∨ B t.b = 61 ∨ B t.b = 62) ∧ (t.k = 0 → t.e = L)
theorem tkF_ok {B : Nat → Nat} {L q : Nat} (hq : q ≤ L) : TkW B L (tkF B L q) ∧ q ≤ (tkF B L q).b := by
  unfold tkF
  have h := spE_le (B := B) (p := cBl) (L - q) q (Nat.le_refl _) hq
  generalize spE B L cBl q = s at h
  by_cases c : L ≤ s
  · rw [tk_e c]
    exact ⟨⟨Nat.le_refl _, h.2, (by decide : (0 : Nat) ≤ 4), fun z => absurd rfl z, fun z => absurd z (by decide : ¬ (0 : Nat) = 1), fun z => absurd z (by decide : ¬ (0 : Nat) = 2), fun z => absurd z (by decide : ¬ (0 : Nat) = 3), fun _ => (show s = L by omega)⟩, h.1⟩
  · have c : s < L := by omega
    by_cases c1 : cSm (B s) = true
    · rw [tk_w c c1]
      have h1 := spE_le (B := B) (p := cSm) (L - (s + 1)) (s + 1) (Nat.le_refl _) (by omega)
      rw [← spE_go c c1] at h1
      refine ⟨⟨(show s ≤ spE B L cSm s by omega), h1.2, (by decide : (1 : Nat) ≤ 4), fun _ => h1.1, fun _ j q1 q2 => ?_, fun z => absurd z (by decide : ¬ (1 : Nat) = 2), fun z => absurd z (by decide : ¬ (1 : Nat) = 3), fun z => absurd z (by decide : ¬ (1 : Nat) = 0)⟩, h.1⟩
      have := spE_in (L - s) s (Nat.le_refl _) j q1 q2
      unfold cSm at this
      rwa [decide_eq_true_iff] at this
    · by_cases c2 : cDg (B s) = true
      · rw [tk_n c c1 c2]
        have h1 := spE_le (B := B) (p := cDg) (L - (s + 1)) (s + 1) (Nat.le_refl _) (by omega)
        rw [← spE_go c c2] at h1
        refine ⟨⟨(show s ≤ spE B L cDg s by omega), h1.2, ?_, fun _ => h1.1, fun z => ?_, fun z => ⟨?_, fun j q1 q2 => ?_⟩, fun z => ?_, fun z => ?_⟩, h.1⟩
        · show (if spE B L cDg s - s ≤ 4 then 2 else 4) ≤ 4
          split <;> omega
        · have z : (if spE B L cDg s - s ≤ 4 then 2 else 4) = 1 := z
          split at z <;> omega
        · have z : (if spE B L cDg s - s ≤ 4 then 2 else 4) = 2 := z
          show spE B L cDg s - s ≤ 4
          split at z <;> omega
        · have := spE_in (L - s) s (Nat.le_refl _) j q1 q2
          unfold cDg at this
          rwa [decide_eq_true_iff] at this
        · have z : (if spE B L cDg s - s ≤ 4 then 2 else 4) = 3 := z
          split at z <;> omega
        · have z : (if spE B L cDg s - s ≤ 4 then 2 else 4) = 0 := z
          split at z <;> omega
      · by_cases c3 : cSg (B s) = true
        · rw [tk_s c c1 c2 c3]
          refine ⟨⟨Nat.le_succ s, c, (by decide : (3 : Nat) ≤ 4), fun _ => Nat.lt_succ_self s, fun z => absurd z (by decide : ¬ (3 : Nat) = 1), fun z => absurd z (by decide : ¬ (3 : Nat) = 2), fun _ => ?_, fun z => absurd z (by decide : ¬ (3 : Nat) = 0)⟩, h.1⟩
          unfold cSg at c3
          rwa [decide_eq_true_iff] at c3
        · rw [tk_b c c1 c2 c3]
          exact ⟨⟨Nat.le_succ s, c, (by decide : (4 : Nat) ≤ 4), fun _ => Nat.lt_succ_self s, fun z => absurd z (by decide : ¬ (4 : Nat) = 1), fun z => absurd z (by decide : ¬ (4 : Nat) = 2), fun z => absurd z (by decide : ¬ (4 : Nat) = 3), fun z => absurd z (by decide : ¬ (4 : Nat) = 0)⟩, h.1⟩
/-- the word of a token; which of the words it is -/
def wdT (B : Nat → Nat) (t : TK) : List Nat := wdL B t.b (t.e - t.b)
def rwT (B : Nat → Nat) (t : TK) : Option Nat := if t.k = 1 then rwW (wdT B t) else none
def rmI (o : Option Nat) : Int32 := match o with
  | none => -1
  | some i => nI (pmN i)
theorem wdT_in {B : Nat → Nat} {L : Nat} {t : TK} (w : TkW B L t) (h : t.k = 1) : ∀ c ∈ wdT B t, 97 ≤ c ∧ c ≤ 122 := wdL_in _ (fun j q1 q2 => w.2.2.2.2.1 h j q1 (by have := w.1; omega))
section RW
variable {l : Launch} {d : Nat} {B : Nat → Nat} {L : Nat} {S : aw_S} {t : TK}
def RsR (S : aw_S) : Prop := S.2.2 94 10 = some 95 ∧ ∀ j, j < 19 → S.2.1 95 j = lN (p5 (kwN j))
theorem sp_reserved {P : Int32 → aw_S → Prop} (hr : RsR S) (w : TkW B L t) (h : TcR S B t) (k : P (oI (rwT B t)) S) : Sp l m_To_reservedWord (d + 1) 0 0 [.ref 94] sh0 S (gI sh0 P) := by
  obtain ⟨r1, r2⟩ := hr
  obtain ⟨h2, h8, h9, h3, -, -⟩ := h
  have w3 := w.2.2.1
  refine e_To_reservedWord rfl ⟨fun z => ?_, fun z => ?_⟩
  · have c : ¬ t.k = 1 := fun y => z (by rw [h2, y]; rfl)
    unfold rwT at k
    rw [if_neg c] at k
    exact k
  · rw [h2] at z
    have c : t.k = 1 := (nI_inj (b := 1) (by omega) (by omega)).mp z
    unfold rwT at k
    rw [if_pos c] at k
    have e3 := h3 c
    have hw := wdT_in w c
    have cmp : ∀ i, i < 19 → (lg_cmp (S.2.1 95 i) (S.2.1 94 3) = 0 ↔ kwN i = wdT B t) := by
      intro i hi
      obtain ⟨o1, o2, o3⟩ := kw_ok i hi
      have a1 := p5_40 (w := kwN i) (by omega) o3
      have a2 := p5_pos o1 o3
      rw [r2 i hi, e3]
      have len : (wdT B t).length = t.e - t.b := wdL_len _ _ _
      by_cases q : t.e - t.b ≤ 8
      · rw [if_pos q]
        have a3 := p5_40 (w := wdT B t) (by omega) hw
        refine ⟨fun y => ?_, fun y => ?_⟩
        · have := (lg_eqv _ _).mp y
          exact p5_inj _ _ o3 hw ((pk_lEQ (by omega) (by have : p5 (wdL B t.b (t.e - t.b)) < 2 ^ 40 := a3; omega)).mp this)
        · rw [y]
          exact lg_self _
      · rw [if_neg q]
        refine ⟨fun y => ?_, fun y => ?_⟩
        · have := (lg_eqv _ _).mp y
          have := (pk_lEQ (b := 0) (by omega) (by omega)).mp this
          omega
        · rw [← y] at len
          omega
    have key : ∀ j i, i + j = 19 → P (oI (rwG (wdT B t) j i)) S → AW l m_To_reservedWord (d + 1) 0 0 (gI sh0 P) 0 0 10 [.ref 94, .int (nI i)] [] sh0 S := by
      intro j
      induction j with
      | zero =>
        intro i hi hp
        have hi : i = 19 := hi
        subst hi
        exact s_To_reservedWord_10 rfl ⟨fun _ => hp, fun y => absurd (by decide) y⟩
      | succ j ih =>
        intro i hi hp
        have cc := cmp i (by omega)
        refine s_To_reservedWord_10 rfl ⟨fun y => absurd ((nI_leI (a := 19) (by omega) (by omega)).mp y) (by omega), fun _ => ⟨95, r1, 19, rfl, vp_in_nI (by omega) (by omega), ?_⟩⟩
        rw [nI_clamp (by omega), nI_1]
        unfold rwG at hp
        refine ⟨fun y => ih (i + 1) (by omega) ?_, fun y => ?_⟩
        · rw [if_neg (fun z => y (cc.mpr z))] at hp
          exact hp
        · rw [if_pos (cc.mp y)] at hp
          exact hp
    exact key 19 0 (by omega) k
theorem sp_inWords {P : Int32 → aw_S → Prop} (hx : TxM S B L) (w : TkW B L t) (h : TmR S B t) (k : P (rmI (rwT B t)) S) : Sp l m_Md_inWords (d + 5) 0 0 [.ref 114, .float 2] sh0 S (gI sh0 P) := by
  obtain ⟨h12, h13, h14, -, -⟩ := h
  have w3 := w.2.2.1
  have wb := w.1
  have wL := w.2.1
  have hL := hx.2.2.1
  have kk : kmN t.k = 2 ↔ t.k = 1 := by
    unfold kmN
    split
    · omega
    · split
      · omega
      · split
        · omega
        · split <;> omega
  have kl : kmN t.k ≤ 4 := by
    unfold kmN
    split
    · omega
    · split
      · omega
      · split
        · omega
        · split <;> omega
  refine e_Md_inWords rfl (Or.inr rfl) ⟨fun z => ?_, fun z => ?_⟩
  · rw [h12] at z
    have c : t.k = 1 := kk.mp ((nI_inj (b := 2) (by omega) (by omega)).mp z)
    unfold rwT at k
    rw [if_pos c] at k
    have len : (wdT B t).length = t.e - t.b := wdL_len _ _ _
    have key : ∀ j n, n + j = 19 → (∀ i, i < n → kwN (pcM i) ≠ wdT B t) → AW l m_Md_inWords (d + 5) 0 0 (gI sh0 P) 0 0 14 [.ref 114, .float 2, .int (nI n), .int (nI (psN n)), .null, .null, .null] [] sh0 S := by
      intro j
      induction j with
      | zero =>
        intro n hn hno
        have hn : n = 19 := hn
        subst hn
        refine s_Md_inWords_14 rfl (Or.inr rfl) (sp_St_length (d := d + 2) (Or.inr rfl) ⟨fun _ => ?_, fun y => absurd ?_ y⟩)
        · rw [rw_no (fun i hi e => hno (pmN i) (pc_ok i hi).2.2.1 (by rw [(pc_ok i hi).2.2.2.1]; exact e))] at k
          exact k
        · rw [ps_19]
          exact Int32.le_refl _
      | succ j ih =>
        intro n hn hno
        obtain ⟨o1, o2, o3, o4, o5⟩ := ps_ok2 n (by omega)
        obtain ⟨u1, u2, u3, u4, u5⟩ := pc_ok n (by omega)
        have len2 : (kwN (pcM n)).length = psN (n + 1) - 1 - psN n := by rw [← u5]; exact wdL_len _ _ _
        have hcl : (aw_cs 2).length < 1000 := by decide +kernel
        have next : kwN (pcM n) ≠ wdT B t → AW l m_Md_inWords (d + 5) 0 0 (gI sh0 P) 0 0 14 [.ref 114, .float 2, .int (nI n + 1), .int (nI (psN (n + 1) - 1) + 1), .null, .null, .null] [] sh0 S := by
          intro y
          rw [nI_1, nI_1, show psN (n + 1) - 1 + 1 = psN (n + 1) by omega]
          exact ih (n + 1) (by omega) (fun i hi => by
            by_cases e : i = n
            · rw [e]; exact y
            · exact hno i (by omega))
        have h68 : ∀ m i, i + m = psN (n + 1) - 1 - psN n → psN (n + 1) - 1 - psN n = t.e - t.b → (∀ q, q < i → csN (psN n + q) = B (t.b + q)) → AW l m_Md_inWords (d + 5) 0 0 (gI sh0 P) 0 0 68 [.ref 114, .float 2, .int (nI n), .int (nI (psN n)), .int (nI (psN (n + 1) - 1)), .int 1, .int (nI (psN n + i))] [] sh0 S := by
          intro m
          induction m with
          | zero =>
            intro i hi hl hq
            have e : kwN (pcM n) = wdT B t := by
              rw [← u5, hl]
              exact (wdL_eq _).mpr (fun q hq' => hq q (by omega))
            rw [rw_is u1 e] at k
            refine s_Md_inWords_68 rfl (Or.inr rfl) ⟨fun _ => ⟨fun y => absurd y (by decide), fun _ => ?_⟩, fun y => absurd (nI_le (show psN (n + 1) - 1 ≤ psN n + i by omega) (by omega)) y⟩
            have k : P (nI (pmN (pcM n))) S := k
            rw [u2] at k
            exact k
          | succ m ihm =>
            intro i hi hl hq
            refine s_Md_inWords_68 rfl (Or.inr rfl) ⟨fun y => absurd ((nI_leI (by omega) (by omega)).mp y) (by omega), fun _ => ⟨fun y => absurd y (by decide), fun _ => sp_St_charAt (d := d) (Or.inr rfl) (by omega) ?_⟩⟩
            rw [h13, nI_add, nI_sub (by omega), show t.b + (psN n + i) - psN n = t.b + i by omega]
            refine sp_byteAt hx (by omega) ?_
            have eb : byN B L (t.b + i) = nI (B (t.b + i)) := if_pos (by omega)
            have lt := w.2.2.2.2.1 c (t.b + i) (by omega) (by omega)
            have o6 := (o5 i (by omega)).2
            have o6 : (aw_cs 2).getD (psN n + i) 0 < 128 := o6
            rw [eb]
            refine ⟨fun y => ?_, fun y => ?_⟩
            · refine s_Md_inWords_68 rfl (Or.inr rfl) ?_
              have ne : kwN (pcM n) ≠ wdT B t := by
                intro e
                rw [← u5, hl] at e
                exact y (congrArg nI ((wdL_eq _).mp e i (by omega)))
              exact ⟨fun _ => ⟨fun _ => next ne, fun y => absurd rfl y⟩, fun _ => ⟨fun _ => ⟨fun _ => next ne, fun y => absurd rfl y⟩, fun y => absurd rfl y⟩⟩
            · rw [nI_1, show psN n + i + 1 = psN n + (i + 1) by omega]
              refine ihm (i + 1) (by omega) hl (fun q hq' => ?_)
              by_cases e : q = i
              · rw [e]
                exact (nI_inj (by omega) (by omega)).mp y
              · exact hq q (by omega)
        have h25 : ∀ m e, e + m = psN (n + 1) - 1 - psN n → AW l m_Md_inWords (d + 5) 0 0 (gI sh0 P) 0 0 25 [.ref 114, .float 2, .int (nI n), .int (nI (psN n)), .int (nI (psN n + e)), .null, .null] [] sh0 S := by
          intro m
          induction m with
          | zero =>
            intro e he
            have ee : psN n + e = psN (n + 1) - 1 := by omega
            refine s_Md_inWords_25 rfl (Or.inr rfl) ?_
            rw [ee]
            refine sp_St_charAt (d := d) (Or.inr rfl) (by omega) ⟨fun _ => ?_, fun y => absurd ?_ y⟩
            · rw [h13, h14, nI_sub (show psN n ≤ psN (n + 1) - 1 by omega), nI_sub wb]
              refine ⟨fun y => ?_, fun y => ?_⟩
              · have ne : kwN (pcM n) ≠ wdT B t := by
                  intro e
                  rw [e, len] at len2
                  exact y (by rw [len2])
                refine s_Md_inWords_68 rfl (Or.inr rfl) ⟨fun _ => ⟨fun _ => next ne, fun y => absurd rfl y⟩, fun _ => ⟨fun _ => ⟨fun _ => next ne, fun y => absurd rfl y⟩, fun y => absurd rfl y⟩⟩
              · exact h68 (psN (n + 1) - 1 - psN n) 0 (by omega) ((nI_inj (by omega) (by omega)).mp y) (fun q hq => absurd hq (Nat.not_lt_zero q))
            · show nI (csN (psN (n + 1) - 1)) = 32
              rw [o4]
              rfl
          | succ m ihm =>
            intro e he
            have o6 := o5 e (by omega)
            refine s_Md_inWords_25 rfl (Or.inr rfl) (sp_St_charAt (d := d) (Or.inr rfl) (by omega) ⟨fun y => ?_, fun _ => ?_⟩)
            · have y : nI (csN (psN n + e)) = nI 32 := y
              exact absurd ((nI_inj (by omega) (by omega)).mp y) o6.1
            · rw [nI_1]
              exact ihm (e + 1) (by omega)
        refine s_Md_inWords_14 rfl (Or.inr rfl) (sp_St_length (d := d + 2) (Or.inr rfl) ⟨fun y => absurd ((nI_leI (by omega) (by omega)).mp y) (by omega), fun _ => h25 (psN (n + 1) - 1 - psN n) 0 (by omega)⟩)
    have := key 19 0 (by omega) (fun i hi => absurd hi (Nat.not_lt_zero i))
    rw [ps_0'] at this
    exact this
  · have c : ¬ t.k = 1 := fun y => z (by rw [h12, kk.mpr y]; rfl)
    unfold rwT at k
    rw [if_neg c] at k
    exact k
end RW
