/-! homeward: the class counts the fewest passes -/
/-- |floorDiv + 1|, as it is worked out -/
def fdI (p0 p1 : Int32) : Int32 := if 0 ≤ (p0 ^^^ p1) then p0 / p1 else if (p0 / p1) * p1 = p0 then p0 / p1 else p0 / p1 - 1
def faI (p0 p1 : Int32) : Int32 := if 0 ≤ fdI p0 p1 + 1 then fdI p0 p1 + 1 else - (fdI p0 p1 + 1)
theorem fd_pa' : ∀ m, m < 6 → ∀ i, i < 21 → ∀ j, j < 21 → faI (nI (13 + i) - nI (13 + j)) (nI (m + 2)) = nI (paN (m + 2) (13 + i) (13 + j)) := by decide +kernel
theorem fd_pa {n a b : Nat} (h1 : 1 < n) (h2 : n ≤ 7) (h3 : 13 ≤ a) (h4 : a < 34) (h5 : 13 ≤ b) (h6 : b < 34) : faI (nI a - nI b) (nI n) = nI (paN n a b) := by
  have := fd_pa' (n - 2) (by omega) (a - 13) (by omega) (b - 13) (by omega)
  rw [show n - 2 + 2 = n by omega, show 13 + (a - 13) = a by omega, show 13 + (b - 13) = b by omega] at this
  exact this
theorem ap_w' : ∀ p, p < 7 → ∀ i, i < 15 → ∀ q, q < 7 → ∀ j, j < 15 → nI p + wI (13 + i) - nI q - wI (13 + j) = nI (p + (13 + i)) - nI (q + (13 + j)) := by decide +kernel
theorem ap_w {p u q v : Nat} (h1 : p < 7) (h2 : 13 ≤ u ∧ u ≤ 27) (h3 : q < 7) (h4 : 13 ≤ v ∧ v ≤ 27) : nI p + wI u - nI q - wI v = nI (p + u) - nI (q + v) := by
  have := ap_w' p h1 (u - 13) (by omega) q h3 (v - 13) (by omega)
  rw [show 13 + (u - 13) = u by omega, show 13 + (v - 13) = v by omega] at this
  exact this
section FWF
variable {l : Launch} {d : Nat} {S : aw_S}
theorem sp_fd {P : Int32 → aw_S → Prop} {p0 p1 : Int32} (h0 : ¬ p1 = 0) (k : P (fdI p0 p1) S) : Sp l m_Ma_floorDiv (d + 1) 0 0 [.int p0, .int p1] sh0 S (gI sh0 P) := by
  unfold fdI at k
  refine e_Ma_floorDiv ⟨h0, fun z => ?_, fun z => ⟨fun z2 => ?_, fun z2 => ?_⟩⟩
  · rw [if_pos z] at k; exact k
  · rw [if_neg z, if_pos z2] at k; exact k
  · rw [if_neg z, if_neg z2] at k; exact k
end FWF
