/-! homeward: the class counts the fewest passes -/
section FWG
variable {l : Launch} {d n : Nat} {S : aw_S} {u : List Nat}
theorem fw_70 {P : Int32 → aw_S → Prop} {p : Nat} (hn : n ≤ 7) (hR : RefsOk S.2.2) (h : WkC S n u) (hp : p < n) : ∀ k q c, q + k = n → p < q → (∀ X, X = nI c + nI (paS n (p + atL u p) u k q) → AW l m_Ho_fewestFrom (d + 2) 0 0 (gI sh0 P) 0 0 58 [.ref 99, .int (nI n), .null, .int X, .int (nI (p + 1)), .null, .null] [] sh0 S) → AW l m_Ho_fewestFrom (d + 2) 0 0 (gI sh0 P) 0 0 70 [.ref 99, .int (nI n), .null, .int (nI c), .int (nI p), .int (nI q), .null] [] sh0 S := by
  obtain ⟨hl, hc⟩ := id h
  have r1 : S.2.2 99 1 = some 101 := hR.at (by decide)
  obtain ⟨cp, bp⟩ := hc p hp
  intro k
  induction k with
  | zero =>
    intro q c hq hpq kk
    refine s_Ho_fewestFrom_70 rfl ⟨fun _ => ?_, fun z => absurd (nI_le (by omega) (by omega)) z⟩
    rw [nI_1]
    exact kk _ (by show nI c = nI c + nI 0; rw [nI_add, Nat.add_zero])
  | succ k ih =>
    intro q c hq hpq kk
    obtain ⟨cq, bq⟩ := hc q (by omega)
    refine s_Ho_fewestFrom_70 rfl ⟨fun z => absurd ((nI_leI (by omega) (by omega)).mp z) (by omega), fun _ => ⟨101, r1, 7, rfl, vp_in_nI (by omega) (by omega), vp_in_nI (by omega) (by omega), ?_⟩⟩
    rw [nI_clamp (by omega), nI_clamp (by omega), cp, cq, ap_w (by omega) bp (by omega) bq]
    intro v7 hv
    subst hv
    refine sp_fd (fun z => ?_) (sp_abs ?_)
    · have := (nI_inj (b := 0) (by omega) (by omega)).mp z
      omega
    · have e := fd_pa (n := n) (a := p + atL u p) (b := q + atL u q) (by omega) hn (by omega) (by omega) (by omega) (by omega)
      unfold faI at e
      rw [e, nI_add, nI_1]
      refine ih (q + 1) _ (by omega) (by omega) (fun X hX => kk X ?_)
      rw [hX, nI_add, nI_add]
      show nI (c + paN n (p + atL u p) (q + atL u q) + paS n (p + atL u p) u k (q + 1)) = nI (c + (paN n (p + atL u p) (q + atL u q) + paS n (p + atL u p) u k (q + 1)))
      rw [Nat.add_assoc]
end FWG
