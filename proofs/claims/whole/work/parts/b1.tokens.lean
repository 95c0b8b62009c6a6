/-! tokens: what is read of a text -/
theorem wb_tb (n : Nat) : (lN n).toBitVec = BitVec.ofNat 64 n := rfl
theorem wb_inj {a b : Int64} (h : a.toBitVec = b.toBitVec) : a = b := Int64.toBitVec_inj.mp h
theorem wb_c : ∀ k, k < 64 → ((nI k).toInt64 &&& 63) = lN k := by decide +kernel
theorem wb_sm : ∀ k, k < 64 → (BitVec.ofNat 64 k).smod 64 = BitVec.ofNat 64 k := by decide +kernel
theorem wb_shl (n : Nat) {k : Nat} (hk : k < 64) : lN n <<< ((nI k).toInt64 &&& 63) = lN (n * 2 ^ k) := by
  rw [wb_c k hk]
  apply wb_inj
  rw [Int64.toBitVec_shiftLeft, wb_tb, wb_tb, wb_tb, wb_sm k hk]
  apply BitVec.eq_of_toNat_eq
  rw [BitVec.shiftLeft_eq', BitVec.toNat_shiftLeft, BitVec.toNat_ofNat, BitVec.toNat_ofNat, BitVec.toNat_ofNat, Nat.mod_eq_of_lt (show k < 2 ^ 64 by omega), Nat.shiftLeft_eq, Nat.mul_mod, Nat.mod_mod, ← Nat.mul_mod]
theorem u_tn {n : Nat} (h : n < 2 ^ 64) : (UInt64.ofNat n).toNat = n := Nat.mod_eq_of_lt h
theorem g_or {k p a b : Nat} (hp : 2 ^ k = p) (ha : a < p) (h : b * p + a < 2 ^ 64) : lN (b * p) ||| lN a = lN (b * p + a) := by
  subst hp
  have h1 : b * 2 ^ k ||| a = b * 2 ^ k + a := by rw [← Nat.shiftLeft_eq, Nat.shiftLeft_add_eq_or_of_lt ha]
  have h3 : UInt64.ofNat (b * 2 ^ k) ||| UInt64.ofNat a = UInt64.ofNat (b * 2 ^ k + a) := UInt64.toNat_inj.mp (by rw [UInt64.toNat_or, u_tn (by omega), u_tn (by omega), u_tn h, h1])
  have h2 := congrArg UInt64.toInt64 h3
  exact h2
/-- how far those of a sort go -/
def spN (B : Nat → Nat) (L : Nat) (p : Nat → Bool) : Nat → Nat → Nat
  | 0, q => q
  | f + 1, q => if q < L ∧ p (B q) = true then spN B L p f (q + 1) else q
def spE (B : Nat → Nat) (L : Nat) (p : Nat → Bool) (q : Nat) : Nat := spN B L p (L - q) q
def cBl (c : Nat) : Bool := decide (c = 10 ∨ c = 32)
def cSm (c : Nat) : Bool := decide (97 ≤ c ∧ c ≤ 122)
def cDg (c : Nat) : Bool := decide (48 ≤ c ∧ c ≤ 57)
def cSg (c : Nat) : Bool := decide (c = 59 ∨ c = 60 ∨ c = 61 ∨ c = 62)
section SP
variable {B : Nat → Nat} {L : Nat} {p : Nat → Bool}
theorem spE_no {q : Nat} (h : ¬ (q < L ∧ p (B q) = true)) : spE B L p q = q := by
  unfold spE
  cases L - q with
  | zero => rfl
  | succ f =>
    show (if q < L ∧ p (B q) = true then spN B L p f (q + 1) else q) = q
    rw [if_neg h]
theorem spE_go {q : Nat} (h1 : q < L) (h2 : p (B q) = true) : spE B L p q = spE B L p (q + 1) := by
  unfold spE
  rw [show L - q = (L - (q + 1)) + 1 by omega]
  show (if q < L ∧ p (B q) = true then spN B L p (L - (q + 1)) (q + 1) else q) = _
  rw [if_pos ⟨h1, h2⟩]
theorem spE_le : ∀ m q, L - q ≤ m → q ≤ L → q ≤ spE B L p q ∧ spE B L p q ≤ L := by
  intro m
  induction m with
  | zero =>
    intro q h1 h2
    rw [spE_no (by omega)]
    exact ⟨Nat.le_refl _, h2⟩
  | succ m ih =>
    intro q h1 h2
    by_cases c : q < L ∧ p (B q) = true
    · rw [spE_go c.1 c.2]
      have := ih (q + 1) (by omega) (by omega)
      omega
    · rw [spE_no c]
      exact ⟨Nat.le_refl _, h2⟩
theorem spE_in : ∀ m q, L - q ≤ m → ∀ j, q ≤ j → j < spE B L p q → p (B j) = true := by
  intro m
  induction m with
  | zero =>
    intro q h1 j h2 h3
    rw [spE_no (by omega)] at h3
    omega
  | succ m ih =>
    intro q h1 j h2 h3
    by_cases c : q < L ∧ p (B q) = true
    · by_cases e : j = q
      · rw [e]; exact c.2
      · rw [spE_go c.1 c.2] at h3
        exact ih (q + 1) (by omega) j (by omega) h3
    · rw [spE_no c] at h3
      omega
theorem spE_stop : ∀ m q, L - q ≤ m → ¬ (spE B L p q < L ∧ p (B (spE B L p q)) = true) := by
  intro m
  induction m with
  | zero =>
    intro q h1
    rw [spE_no (by omega)]
    omega
  | succ m ih =>
    intro q h1
    by_cases c : q < L ∧ p (B q) = true
    · rw [spE_go c.1 c.2]
      exact ih (q + 1) (by omega)
    · rw [spE_no c]
      exact c
end SP
/-- a token: its kind (0 the end, 1 a word, 2 a number, 3 a sign, 4 none), where it begins, where it ends -/
abbrev TK : Type := Nat × Nat × Nat
abbrev TK.k (t : TK) : Nat := t.1
abbrev TK.b (t : TK) : Nat := t.2.1
abbrev TK.e (t : TK) : Nat := t.2.2
def tkS (B : Nat → Nat) (L s : Nat) : TK := if L ≤ s then (0, s, s) else if cSm (B s) = true then (1, s, spE B L cSm s) else if cDg (B s) = true then (if spE B L cDg s - s ≤ 4 then 2 else 4, s, spE B L cDg s) else (if cSg (B s) = true then 3 else 4, s, s + 1)
theorem tk_e {B : Nat → Nat} {L s : Nat} (h : L ≤ s) : tkS B L s = (0, s, s) := by
  unfold tkS
  rw [if_pos h]
theorem tk_w {B : Nat → Nat} {L s : Nat} (h : s < L) (c : cSm (B s) = true) : tkS B L s = (1, s, spE B L cSm s) := by
  unfold tkS
  rw [if_neg (show ¬ L ≤ s by omega), if_pos c]
theorem tk_n {B : Nat → Nat} {L s : Nat} (h : s < L) (c : ¬ cSm (B s) = true) (c2 : cDg (B s) = true) : tkS B L s = (if spE B L cDg s - s ≤ 4 then 2 else 4, s, spE B L cDg s) := by
  unfold tkS
  rw [if_neg (show ¬ L ≤ s by omega), if_neg c, if_pos c2]
theorem tk_s {B : Nat → Nat} {L s : Nat} (h : s < L) (c : ¬ cSm (B s) = true) (c2 : ¬ cDg (B s) = true) (c3 : cSg (B s) = true) : tkS B L s = (3, s, s + 1) := by
  unfold tkS
  rw [if_neg (show ¬ L ≤ s by omega), if_neg c, if_neg c2, if_pos c3]
theorem tk_b {B : Nat → Nat} {L s : Nat} (h : s < L) (c : ¬ cSm (B s) = true) (c2 : ¬ cDg (B s) = true) (c3 : ¬ cSg (B s) = true) : tkS B L s = (4, s, s + 1) := by
  unfold tkS
  rw [if_neg (show ¬ L ≤ s by omega), if_neg c, if_neg c2, if_neg c3]
def tkF (B : Nat → Nat) (L q : Nat) : TK := tkS B L (spE B L cBl q)
/-- a word, its last letter first; a number -/
def wdL (B : Nat → Nat) (s : Nat) : Nat → List Nat
  | 0 => []
  | k + 1 => B (s + k) :: wdL B s k
def nvL (B : Nat → Nat) (s : Nat) : Nat → Nat
  | 0 => 0
  | k + 1 => nvL B s k * 10 + (B (s + k) - 48)
theorem wdL_len (B : Nat → Nat) (s k : Nat) : (wdL B s k).length = k := by
  induction k with
  | zero => rfl
  | succ k ih =>
    show (wdL B s k).length + 1 = k + 1
    rw [ih]
theorem wdL_in {B : Nat → Nat} {s : Nat} : ∀ k, (∀ j, s ≤ j → j < s + k → 97 ≤ B j ∧ B j ≤ 122) → ∀ c ∈ wdL B s k, 97 ≤ c ∧ c ≤ 122 := by
  intro k
  induction k with
  | zero => intro _ c hc; cases hc
  | succ k ih =>
    intro h c hc
    rcases List.mem_cons.mp hc with rfl | hc
    · exact h _ (by omega) (by omega)
    · exact ih (fun j h1 h2 => h j h1 (by omega)) c hc
theorem p5_lt : ∀ w : List Nat, (∀ c ∈ w, 97 ≤ c ∧ c ≤ 122) → p5 w < 32 ^ w.length := by
  intro w
  induction w with
  | nil => intro _; decide
  | cons c w ih =>
    intro h
    have h1 := ih (fun x hx => h x (List.mem_cons_of_mem _ hx))
    have h2 := h c List.mem_cons_self
    show p5 w * 32 + (c - 96) < 32 ^ (w.length + 1)
    rw [Nat.pow_succ]
    omega
theorem nvL_lt {B : Nat → Nat} {s : Nat} : ∀ k, (∀ j, s ≤ j → j < s + k → 48 ≤ B j ∧ B j ≤ 57) → nvL B s k < 10 ^ k := by
  intro k
  induction k with
  | zero => intro _; exact (by decide : (0 : Nat) < 1)
  | succ k ih =>
    intro h
    have h1 := ih (fun j h1 h2 => h j h1 (by omega))
    have h2 := h (s + k) (by omega) (by omega)
    show nvL B s k * 10 + (B (s + k) - 48) < 10 ^ (k + 1)
    rw [Nat.pow_succ]
    omega
/-- a byte, as a signed number -/
def byP (x : Int32) (b : Nat) : Prop := (b < 128 ∧ x = nI b) ∨ (128 ≤ b ∧ b < 256 ∧ x < 0)
theorem i_neg {x : Int32} (h : x < 0) (c : Nat) (hc : c < 2 ^ 31) : x < nI c ∧ ¬ x = nI c ∧ ¬ nI c < x ∧ ¬ nI c ≤ x := by
  have h1 := Int32.lt_iff_toInt_lt.mp h
  have h2 := nI_toInt hc
  have h3 : (0 : Int32).toInt = 0 := by decide
  rw [h3] at h1
  refine ⟨Int32.lt_iff_toInt_lt.mpr (by omega), fun z => ?_, fun z => ?_, fun z => ?_⟩
  · rw [z, h2] at h1
    omega
  · have := Int32.lt_iff_toInt_lt.mp z
    omega
  · have := Int32.le_iff_toInt_le.mp z
    omega
theorem byP.eq {x : Int32} {b c : Nat} (h : byP x b) (hc : c < 128) : x = nI c ↔ b = c := by
  rcases h with ⟨h1, h2⟩ | ⟨h1, h2, h3⟩
  · rw [h2]
    exact nI_inj (by omega) (by omega)
  · exact ⟨fun z => absurd z (i_neg h3 c (by omega)).2.1, fun z => by omega⟩
theorem byP.gt {x : Int32} {b c : Nat} (h : byP x b) (hc : c < 128) : nI c < x ↔ c < b ∧ b < 128 := by
  rcases h with ⟨h1, h2⟩ | ⟨h1, h2, h3⟩
  · rw [h2, nI_ltI (by omega) (by omega)]
    omega
  · exact ⟨fun z => absurd z (i_neg h3 c (by omega)).2.2.1, fun z => by omega⟩
theorem byP.lt {x : Int32} {b c : Nat} (h : byP x b) (hc : c < 128) : x < nI c ↔ b < c ∨ 128 ≤ b := by
  rcases h with ⟨h1, h2⟩ | ⟨h1, h2, h3⟩
  · rw [h2, nI_ltI (by omega) (by omega)]
    omega
  · exact ⟨fun _ => Or.inr h1, fun _ => (i_neg h3 c (by omega)).1⟩
theorem byP.lo {x : Int32} {b : Nat} (h : byP x b) (hb : b < 128) : x = nI b := (h.eq hb).mpr rfl
theorem byP.of {x : Int32} (h : x.toInt8.toInt32 = x) : ∃ b, b < 256 ∧ byP x b ∧ x &&& 255 = nI b := by
  have h1 : -128 ≤ x.toInt ∧ x.toInt < 128 := by
    rw [← h, Int8.toInt_toInt32]
    have := Int8.le_toInt x.toInt8
    have := Int8.toInt_lt x.toInt8
    omega
  refine ⟨x.toBitVec.toNat % 2 ^ 8, Nat.mod_lt _ (by decide), ?_, pk_and x 8 (by decide)⟩
  have e : x.toInt = x.toBitVec.toInt := rfl
  have t := BitVec.toInt_eq_toNat_cond x.toBitVec
  have l := x.toBitVec.isLt
  by_cases c : 2 * x.toBitVec.toNat < 2 ^ 32
  · rw [if_pos c] at t
    left
    have hlt : x.toBitVec.toNat < 128 := by omega
    rw [Nat.mod_eq_of_lt (by omega)]
    refine ⟨hlt, Int32.toBitVec_inj.mp ?_⟩
    show _ = BitVec.ofNat 32 _
    simp
  · rw [if_neg c] at t
    right
    refine ⟨by omega, by omega, Int32.lt_iff_toInt_lt.mpr ?_⟩
    rw [show (0 : Int32).toInt = 0 by decide]
    omega
