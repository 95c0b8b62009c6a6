/-! the plait, as its object holds it: a pass is a number gap + 8 over + 16 upper + 128 lower -/
/-- the pass that one in a gap would undo, among the first k -/
def ub (f : Nat → Nat) (tch : Nat → Bool) (gap over : Nat) : Nat → Option Nat
  | 0 => none
  | k + 1 => if tch (f k % 8) then (if f k % 8 = gap ∧ ¬ f k / 8 % 2 = over then some k else none) else ub f tch gap over k
/-- the latest in a gap among the first k -/
def lt_in (f : Nat → Nat) (gap : Nat) : Nat → Option Nat
  | 0 => none
  | k + 1 => if f k % 8 = gap then some k else lt_in f gap k
def tm_in (f : Nat → Nat) (gap : Nat) : Nat → Nat
  | 0 => 0
  | k + 1 => tm_in f gap k + if f k % 8 = gap then 1 else 0
def tm_ov (f : Nat → Nat) (who : Nat) : Nat → Nat
  | 0 => 0
  | k + 1 => tm_ov f who k + if f k / 16 % 8 = who then 1 else 0
/-- the object a with its row r holds the m passes f -/
def PlA (sh : aw_SH) (S : aw_S) (a r cap m : Nat) (f : Nat → Nat) : Prop := sh[a]? = some (0, 3) ∧ S.2.2 a 0 = some r ∧ sh[r]? = some (3, cap) ∧ S.1 a 1 = nI m ∧ m ≤ cap ∧ cap ≤ 80 ∧ ∀ k, k < m → S.1 r k = nI (f k) ∧ f k < 1024
section PL
variable {l : Launch} {d : Nat} {sh : aw_SH} {S : aw_S} {a r cap m : Nat} {f : Nat → Nat}
theorem sp_Pl_gapAt {P : Int32 → aw_S → Prop} {k : Nat} (H : PlA sh S a r cap m f) (hk : k < m) (h : P (nI (f k % 8)) S) : Sp l m_Pl_gapAt (d + 1) 0 0 [.ref a, .int (nI k)] sh S (gI sh P) := by
  obtain ⟨sa, hr, sr, hm, hc, hcap, hf⟩ := H
  obtain ⟨e1, e2⟩ := hf k hk
  refine e_Pl_gapAt sa ⟨r, hr, cap, sr, vp_in_nI (by omega) (by omega), ?_⟩
  rw [nI_clamp (by omega), e1, n_gap e2]
  exact h
theorem sp_Pl_overAt {P : Int32 → aw_S → Prop} {k : Nat} (H : PlA sh S a r cap m f) (hk : k < m) (h : P (nI (f k / 8 % 2)) S) : Sp l m_Pl_overAt (d + 1) 0 0 [.ref a, .int (nI k)] sh S (gI sh P) := by
  obtain ⟨sa, hr, sr, hm, hc, hcap, hf⟩ := H
  obtain ⟨e1, e2⟩ := hf k hk
  refine e_Pl_overAt sa ⟨r, hr, cap, sr, vp_in_nI (by omega) (by omega), ?_⟩
  rw [nI_clamp (by omega), e1, n_over e2]
  exact h
theorem sp_Pl_upperAt {P : Int32 → aw_S → Prop} {k : Nat} (H : PlA sh S a r cap m f) (hk : k < m) (h : P (nI (f k / 16 % 8)) S) : Sp l m_Pl_upperAt (d + 1) 0 0 [.ref a, .int (nI k)] sh S (gI sh P) := by
  obtain ⟨sa, hr, sr, hm, hc, hcap, hf⟩ := H
  obtain ⟨e1, e2⟩ := hf k hk
  refine e_Pl_upperAt sa ⟨r, hr, cap, sr, vp_in_nI (by omega) (by omega), ?_⟩
  rw [nI_clamp (by omega), e1, n_upper e2]
  exact h
theorem sp_Pl_lowerAt {P : Int32 → aw_S → Prop} {k : Nat} (H : PlA sh S a r cap m f) (hk : k < m) (h : P (nI (f k / 128 % 8)) S) : Sp l m_Pl_lowerAt (d + 1) 0 0 [.ref a, .int (nI k)] sh S (gI sh P) := by
  obtain ⟨sa, hr, sr, hm, hc, hcap, hf⟩ := H
  obtain ⟨e1, e2⟩ := hf k hk
  refine e_Pl_lowerAt sa ⟨r, hr, cap, sr, vp_in_nI (by omega) (by omega), ?_⟩
  rw [nI_clamp (by omega), e1, n_lower e2]
  exact h
theorem sp_Pl_undoneBy {P : Int32 → aw_S → Prop} {gap over : Nat} {mask : Int32} {tch : Nat → Bool} (H : PlA sh S a r cap m f) (hg : gap < 8) (ho : over < 2) (hk : ∀ k, k < m → ((mask >>> (nI (f k % 8) &&& 31)) &&& 1 = 0 ↔ tch (f k % 8) = false)) (h : P (oI (ub f tch gap over m)) S) : Sp l m_Pl_undoneBy (d + 1) 0 0 [.ref a, .int (nI gap), .int (nI over), .int mask] sh S (gI sh P) := by
  obtain ⟨sa, hr, sr, hm, hc, hcap, hf⟩ := H
  refine e_Pl_undoneBy sa ?_
  rw [hm]
  have key : ∀ k, k ≤ m → P (oI (ub f tch gap over k)) S → AW l m_Pl_undoneBy (d + 1) 0 0 (gI sh P) 0 0 8 [.ref a, .int (nI gap), .int (nI over), .int mask, .int (nI k - 1), .null] [] sh S := by
    intro k
    induction k with
    | zero =>
      intro _ hp
      rw [iM_0]
      exact s_Pl_undoneBy_8 sa ⟨fun _ => hp, fun q => absurd m1_lt q⟩
    | succ k ih =>
      intro hk1 hp
      rw [nI_pred]
      obtain ⟨e1, e2⟩ := hf k hk1
      have hv : vp_in (nI k) cap := vp_in_nI (by omega) (by omega)
      refine s_Pl_undoneBy_8 sa ⟨fun q => absurd q (nI_pos (by omega)), fun _ => ⟨r, hr, cap, sr, hv, ?_⟩⟩
      rw [nI_clamp (by omega), e1, n_gap e2, n_over e2, nI_mm]
      have hb := hk k (by omega)
      unfold ub at hp
      by_cases ht : tch (f k % 8) = false
      · rw [ht, if_neg (by decide)] at hp
        exact ⟨fun _ => ih (by omega) hp, fun q => absurd (hb.mpr ht) q⟩
      · rw [if_pos (by simpa using ht)] at hp
        refine ⟨fun q => absurd (hb.mp q) ht, fun _ => ⟨fun q => ?_, fun q => ⟨hv, fun q2 => ?_, fun q2 => ?_⟩⟩⟩
        · rw [if_neg (fun z => q (by rw [z.1]))] at hp
          exact hp
        · rw [if_neg (fun z => z.2 ((nI_inj (by omega) (by omega)).mp q2))] at hp
          exact hp
        · rw [if_pos ⟨(nI_inj (by omega) (by omega)).mp q, fun z => q2 (by rw [z])⟩] at hp
          exact hp
  exact key m (Nat.le_refl _) h
theorem sp_Pl_latestIn {P : Int32 → aw_S → Prop} {gap n : Nat} (H : PlA sh S a r cap m f) (hg : gap < 8) (hn : n ≤ m) (h : P (oI (lt_in f gap n)) S) : Sp l m_Pl_latestIn (d + 1) 0 0 [.ref a, .int (nI gap), .int (nI n)] sh S (gI sh P) := by
  obtain ⟨sa, hr, sr, hm, hc, hcap, hf⟩ := H
  refine e_Pl_latestIn sa ?_
  have key : ∀ k, k ≤ m → P (oI (lt_in f gap k)) S → AW l m_Pl_latestIn (d + 1) 0 0 (gI sh P) 0 0 4 [.ref a, .int (nI gap), .null, .int (nI k - 1)] [] sh S := by
    intro k
    induction k with
    | zero =>
      intro _ hp
      rw [iM_0]
      exact s_Pl_latestIn_4 sa ⟨fun _ => hp, fun q => absurd m1_lt q⟩
    | succ k ih =>
      intro hk1 hp
      rw [nI_pred]
      obtain ⟨e1, e2⟩ := hf k hk1
      refine s_Pl_latestIn_4 sa ⟨fun q => absurd q (nI_pos (by omega)), fun _ => ⟨r, hr, cap, sr, vp_in_nI (by omega) (by omega), ?_⟩⟩
      rw [nI_clamp (by omega), e1, n_gap e2, nI_mm]
      unfold lt_in at hp
      refine ⟨fun q => ?_, fun q => ?_⟩
      · rw [if_neg (fun z => q (by rw [z]))] at hp
        exact ih (by omega) hp
      · rw [if_pos ((nI_inj (by omega) (by omega)).mp q)] at hp
        exact hp
  exact key n hn h
theorem sp_Pl_timesIn {P : Int32 → aw_S → Prop} {gap : Nat} (H : PlA sh S a r cap m f) (hg : gap < 8) (h : P (nI (tm_in f gap m)) S) : Sp l m_Pl_timesIn (d + 1 + 1) 0 0 [.ref a, .int (nI gap)] sh S (gI sh P) := by
  obtain ⟨sa, hr, sr, hm, hc, hcap, hf⟩ := id H
  refine e_Pl_timesIn sa ?_
  have key : ∀ j k, k + j = m → AW l m_Pl_timesIn (d + 1 + 1) 0 0 (gI sh P) 0 0 4 [.ref a, .int (nI gap), .int (nI (tm_in f gap k)), .int (nI k)] [] sh S := by
    intro j
    induction j with
    | zero =>
      intro k hk
      have hk : k = m := hk
      subst hk
      exact s_Pl_timesIn_4 sa ⟨fun _ => h, fun q => absurd (by rw [hm]; exact nI_le (Nat.le_refl _) (by omega)) q⟩
    | succ j ih =>
      intro k hk
      refine s_Pl_timesIn_4 sa ⟨fun q => absurd (by rw [hm] at q; exact q) (nI_ge (by omega) (by omega)), fun _ => sp_Pl_gapAt H (by omega) ⟨fun q => ?_, fun q => ?_⟩⟩
      · have := ih (k + 1) (by omega)
        rw [tm_in, if_neg (fun z => q (by rw [z])), Nat.add_zero] at this
        rw [nI_1]
        exact this
      · have := ih (k + 1) (by omega)
        rw [tm_in, if_pos ((nI_inj (by omega) (by omega)).mp q)] at this
        rw [nI_1, nI_1]
        exact this
  exact key m 0 (by omega)
end PL
