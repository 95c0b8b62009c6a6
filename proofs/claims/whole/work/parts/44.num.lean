/-! numbers -/
def oI : Option Nat → Int32
  | none => -1
  | some k => nI k
theorem iM_0 : nI 0 - 1 = -1 := by decide
theorem m1_lt : (-1 : Int32) < 0 := by decide
theorem nI_mm (k : Nat) : nI k + (-1) = nI k - 1 := (Int32.sub_eq_add_neg (nI k) 1).symm
theorem n_and7 {p : Nat} (h : p < 1024) : nI p &&& 7 = nI (p % 8) := pk_andN (by omega) 3 (by decide)
theorem n_and1 {p : Nat} (h : p < 2 ^ 31) : nI p &&& 1 = nI (p % 2) := pk_andN (by omega) 1 (by decide)
theorem n_shr {p : Nat} (h : p < 2 ^ 31) (s : Int32) (k : Nat) (hs : (s.toBitVec.smod 32).toNat = k) : nI p >>> s = nI (p / 2 ^ k) := pk_shrN h s k hs
theorem n_gap {p : Nat} (h : p < 1024) : nI p &&& 7 = nI (p % 8) := n_and7 h
theorem n_over {p : Nat} (h : p < 1024) : (nI p >>> ((3 : Int32) &&& 31)) &&& 1 = nI (p / 8 % 2) := by
  rw [n_shr (by omega) _ 3 (by decide), n_and1 (by omega)]
theorem n_upper {p : Nat} (h : p < 1024) : (nI p >>> ((4 : Int32) &&& 31)) &&& 7 = nI (p / 16 % 8) := by
  rw [n_shr (by omega) _ 4 (by decide), n_and7 (by omega)]
theorem n_lower {p : Nat} (h : p < 1024) : (nI p >>> ((7 : Int32) &&& 31)) &&& 7 = nI (p / 128 % 8) := by
  rw [n_shr (by omega) _ 7 (by decide), n_and7 (by omega)]
theorem nI_inj {a b : Nat} (ha : a < 2 ^ 31) (hb : b < 2 ^ 31) : nI a = nI b ↔ a = b := nI_eq ha hb
theorem nI_lit (n : Nat) : nI n = Int32.ofNat n := rfl
theorem nI_ne_m1 {a : Nat} (ha : a < 2 ^ 31) : ¬ nI a = -1 := fun q => absurd (q ▸ m1_lt : nI a < 0) (nI_pos ha)
