/-! homeward: the class exchanges two places -/
def HY (k _j : Nat) : Prop := k = 100
section HEX
variable {l : Launch} {d n : Nat} {S : aw_S} {x : List Nat}
theorem sp_exchange {P : aw_S → Prop} {g : Nat} (hn : n ≤ 7) (hR : RefsOk S.2.2) (hl : lnN x = n) (hg : g < gpN n) (hc : ∀ p, p < n → S.1 100 p = nI (atL x p)) (k : ∀ S', FrI HY S S' → (∀ p, p < n → S'.1 100 p = nI (atL (swL n x g) p)) → P S') : Sp l m_Ho_exchange (d + 1) 0 0 [.ref 99, .int (nI g), .int (nI ((g + 1) % n))] sh0 S (gV sh0 P) := by
  obtain ⟨h1, h2, h3, h4⟩ := gp_nx hg
  have vg : vp_in (nI g) 7 := vp_in_nI (by omega) (by omega)
  have vh : vp_in (nI ((g + 1) % n)) 7 := vp_in_nI (by omega) (by omega)
  refine e_Ho_exchange rfl ⟨100, hR.at (by decide), 7, rfl, vg, vh, vg, vh, ?_⟩
  rw [nI_clamp (by omega), nI_clamp (by omega)]
  refine k _ (((FrI.refl HY S).uI _ (show HY 100 _ from rfl)).uI _ (show HY 100 _ from rfl)) (fun p hp => ?_)
  rw [uI_at, if_pos rfl, uI_at, if_pos rfl, sw_at hl hg]
  by_cases e1 : p = (g + 1) % n
  · rw [if_pos e1, if_pos e1]; exact hc g h1
  · rw [if_neg e1, if_neg e1]
    by_cases e2 : p = g
    · rw [if_pos e2, if_pos e2]; exact hc _ h2
    · rw [if_neg e2, if_neg e2]; exact hc p hp
end HEX
