/-! rows of the reference -/
def okM (n : Nat) (G C : Nat → Nat) (g : GM) : Bool := decide (∀ i, i < n → shN g (G i) = C i)
/-- the tray t tells n gaps and colours -/
def SeT (S : aw_S) (t n : Nat) (gp : Nat) (G C : Nat → Nat) : Prop := (∀ i, i < n → G i < gp ∧ C i ≤ 6) ∧ ∀ i, i < n → S.2.1 119 (60 * t + 2 * i) = lN (G i) ∧ S.2.1 119 (60 * t + 2 * i + 1) = lN (C i)
theorem lg_eqv (x y : Int64) : lg_cmp x y = 0 ↔ x = y := by
  unfold lg_cmp
  split
  · next h => exact ⟨fun z => absurd z (by decide), fun z => absurd (by rw [z] at h; exact h) (fun q => Int64.lt_irrefl q)⟩
  · split
    · next h => exact ⟨fun _ => h, fun _ => rfl⟩
    · next h => exact ⟨fun z => absurd z (by decide), fun z => absurd z h⟩
theorem n60c (t i : Nat) : (60 : Int32) * nI t + (2 : Int32) * nI i = nI (60 * t + 2 * i) := by rw [show (60 : Int32) = nI 60 from rfl, show (2 : Int32) = nI 2 from rfl, pk_mul, pk_mul, nI_add]
section SM
variable {l : Launch} {d : Nat} {S : aw_S} {g : GM}
theorem sp_counts {P : aw_S → Prop} {t n k R : Nat} {G C : Nat → Nat} {T : Nat → Nat → Nat} (ht : t < 4) (hn20 : n ≤ 20) (hk : k ≤ 4) (hR : RefsOk S.2.2) (hb : bdG g) (H : MdG S.1 0 g) (hT : SeT S t n (gpN g.n) G C) (h39 : S.1 114 39 = nI R) (hR4 : R < 2 ^ 20) (hta : ∀ gap c, gap < gpN g.n → c ≤ 6 → S.1 134 (7 * gap + c) = nI (T gap c))
    (h : ∀ U, FrI (fun a j => (a = 114 ∧ j = 39) ∨ a = 133 ∨ a = 134) S U → XI (okM n G C) g k 0 R T 114 39 134 133 (S.1 132) (S.1 133) U.1 → P U) : Sp l m_Md_counts (d + 1 + 1 + 1 + 1) 0 0 [.ref 114, .int (nI t), .int (nI n), .int (nI k)] sh0 S (gV sh0 P) := by
  have hn : g.n ≤ 7 := hb.1
  have hgp := gp_le g.n
  obtain ⟨hGC, hV⟩ := hT
  -- all shows
  have key3 : ∀ j y U, okM n G C g = true → y + j = gpN g.n → FrI (fun a j => (a = 114 ∧ j = 39) ∨ a = 133 ∨ a = 134) S U → U.1 114 39 = nI R → (∀ gap c, gap < gpN g.n → c ≤ 6 → U.1 134 (7 * gap + c) = nI (T gap c + if gap < y ∧ shN g gap = c then 1 else 0)) → (R ≠ 0 → ∀ j, U.1 133 j = S.1 133 j) → (R = 0 → ∀ i, i < k → U.1 133 i = S.1 132 i) → AW l m_Md_counts (d + 1 + 1 + 1 + 1) 0 0 (gV sh0 P) 0 0 92 [.ref 114, .null, .null, .null, .int (nI y), .null] [] sh0 U := by
    intro j
    induction j with
    | zero =>
      intro y U hok hy F u1 u2 u3 u4
      have hy : y = gpN g.n := hy
      subst hy
      have hRU : RefsOk U.2.2 := by rw [F.R]; exact hR
      refine s_Md_counts_92 rfl (sp_Md_gapsOf (s := 0) (MdS.mk0 hRU) (by omega) hn (by rw [F.1 115 0 (by omega)]; exact H.1) ⟨fun _ => h _ (F.uI _ (Or.inl ⟨rfl, rfl⟩)) ⟨?_, fun gap c hg hc => ?_, fun q j => ?_, fun q1 q2 => ⟨fun _ => 0, trivial, fun i hi => ?_, fun i hi => absurd hi (Nat.not_lt_zero i)⟩⟩, fun q => absurd (nI_le (Nat.le_refl _) (by omega)) q⟩)
      · rw [uI_at, if_pos rfl, if_pos rfl, u1, nI_1]
        unfold rowsN
        rw [if_pos hok]
      · rw [uI_ne _ _ _ (by omega), u2 gap c hg hc]
        unfold tabN
        by_cases e : shN g gap = c
        · rw [if_pos ⟨hg, e⟩, if_pos ⟨hok, e⟩]
        · rw [if_neg (fun z => e z.2), if_neg (fun z => e z.2)]
      · rw [uI_ne _ _ _ (by omega)]
        refine u3 ?_ j
        rcases q with q | q
        · exact q
        · unfold rowsN at q
          rw [if_pos hok] at q
          exact absurd q (by decide)
      · rw [uI_ne _ _ _ (by omega)]
        exact u4 q1 i hi
    | succ j ih =>
      intro y U hok hy F u1 u2 u3 u4
      have hRU : RefsOk U.2.2 := by rw [F.R]; exact hR
      have c6 := sh_le hb y
      have MU : MdG U.1 0 g := H.fr hn hb.2.2.2.2.1 (fun j _ => F.1 115 _ (by omega))
      refine s_Md_counts_92 rfl (sp_Md_gapsOf (s := 0) (MdS.mk0 hRU) (by omega) hn MU.1 ⟨fun q => absurd q (nI_ge (by omega) (by omega)), fun _ => ⟨134, hRU.at (by decide), sp_Md_showsOf (MdS.mk0 hRU) hb MU (by omega) ⟨49, rfl, ?_⟩⟩⟩)
      rw [n7a, nI_clamp (by omega), nI_1]
      refine ⟨vp_in_nI (by omega) (by omega), vp_in_nI (by omega) (by omega), ih (y + 1) _ hok (by omega) (F.uI _ (by omega)) ?_ (fun gap c hg hc => ?_) (fun q j => ?_) (fun q i hi => ?_)⟩
      · rw [uI_ne _ _ _ (by omega)]; exact u1
      · rw [uI_at, if_pos rfl]
        by_cases e : gap = y
        · subst e
          by_cases e3 : shN g gap = c
          · have q1 : gap < gap + 1 ∧ shN g gap = c := ⟨by omega, e3⟩
            rw [if_pos (by omega), if_pos q1, e3, u2 gap c hg hc, if_neg (by omega), nI_1, Nat.add_zero]
          · rw [if_neg (by omega), if_neg (fun z => e3 z.2), u2 gap c hg hc, if_neg (by omega)]
        · rw [if_neg (by omega), u2 gap c hg hc]
          by_cases e3 : gap < y ∧ shN g gap = c
          · have q1 : gap < y + 1 ∧ shN g gap = c := ⟨by omega, e3.2⟩
            rw [if_pos e3, if_pos q1]
          · rw [if_neg e3, if_neg (fun z => e3 ⟨by omega, z.2⟩)]
      · rw [uI_ne _ _ _ (by omega)]; exact u3 q j
      · rw [uI_ne _ _ _ (by omega)]; exact u4 q i hi
  -- the first row
  have key2 : ∀ j y U, okM n G C g = true → y + j = k → FrI (fun a j => a = 133) S U → (R ≠ 0 → ∀ j, U.1 133 j = S.1 133 j) → (R = 0 → ∀ i, i < y → U.1 133 i = S.1 132 i) → AW l m_Md_counts (d + 1 + 1 + 1 + 1) 0 0 (gV sh0 P) 0 0 56 [.ref 114, .null, .null, .int (nI k), .int (nI y), .null] [] sh0 U := by
    intro j
    induction j with
    | zero =>
      intro y U hok hy F u3 u4
      have hy : y = k := hy
      subst hy
      refine s_Md_counts_56 rfl ⟨fun _ => key3 (gpN g.n) 0 U hok (by omega) (F.mono (fun a j q => by omega)) (by rw [F.1 114 39 (by omega)]; exact h39) (fun gap c hg hc => ?_) u3 u4, fun q => absurd (nI_le (Nat.le_refl _) (by omega)) q⟩
      rw [F.1 134 _ (by omega), hta gap c hg hc, if_neg (by omega), Nat.add_zero]
    | succ j ih =>
      intro y U hok hy F u3 u4
      have hRU : RefsOk U.2.2 := by rw [F.R]; exact hR
      refine s_Md_counts_56 rfl ⟨fun q => absurd q (nI_ge (by omega) (by omega)), fun _ => ?_⟩
      rw [F.1 114 39 (by omega), h39]
      refine ⟨fun q => key3 (gpN g.n) 0 U hok (by omega) (F.mono (fun a j q => by omega)) (by rw [F.1 114 39 (by omega)]; exact h39) (fun gap c hg hc => ?_) u3 (fun q2 => absurd (by rw [q2]; rfl) q), fun q => ⟨133, hRU.at (by decide), 132, hRU.at (by decide), 5, rfl, vp_in_nI (by omega) (by omega), 4, rfl, vp_in_nI (by omega) (by omega), ?_⟩⟩
      · rw [F.1 134 _ (by omega), hta gap c hg hc, if_neg (by omega), Nat.add_zero]
      · have r0 : R = 0 := (nI_inj (b := 0) (by omega) (by omega)).mp q
        rw [nI_clamp (by omega), nI_1]
        refine ih (y + 1) _ hok (by omega) (F.uI _ rfl) (fun q2 => absurd r0 q2) (fun _ i hi => ?_)
        rw [uI_at, if_pos rfl]
        by_cases e : i = y
        · rw [if_pos e, e, F.1 132 y (by omega)]
        · rw [if_neg e]
          exact u4 r0 i (by omega)
  -- what was seen
  have key1 : ∀ j i, i + j = n → (∀ y, y < i → shN g (G y) = C y) → AW l m_Md_counts (d + 1 + 1 + 1 + 1) 0 0 (gV sh0 P) 0 0 3 [.ref 114, .int (nI t), .int (nI n), .int (nI k), .int (nI i), .null] [] sh0 S := by
    intro j
    induction j with
    | zero =>
      intro i hi hy
      have hi : i = n := hi
      subst hi
      exact s_Md_counts_3 rfl ⟨fun _ => key2 k 0 S (decide_eq_true hy) (by omega) (FrI.refl _ _) (fun _ _ => rfl) (fun _ i hi => absurd hi (Nat.not_lt_zero i)), fun q => absurd (nI_le (Nat.le_refl _) (by omega)) q⟩
    | succ j ih =>
      intro i hi hy
      obtain ⟨v1, v2⟩ := hV i (by omega)
      obtain ⟨g1, g2⟩ := hGC i (by omega)
      have c6 := sh_le hb (G i)
      refine s_Md_counts_3 rfl ⟨fun q => absurd q (nI_ge (by omega) (by omega)), fun _ => ⟨119, hR.at (by decide), 240, rfl, ?_, ?_⟩⟩
      · rw [n60c]; exact vp_in_nI (by omega) (by omega)
      · rw [n60c, nI_clamp (by omega), v1, lN_i]
        refine sp_Md_showsOf (MdS.mk0 hR) hb H (by omega) ⟨119, hR.at (by decide), 240, rfl, ?_, ?_⟩
        · rw [nI_1]; exact vp_in_nI (by omega) (by omega)
        · rw [nI_1, nI_clamp (by omega), v2, nI_l (by omega), nI_1]
          by_cases e : shN g (G i) = C i
          · rw [e]
            exact ⟨fun _ => ih (i + 1) (by omega) (fun y hy2 => if z : y = i then by rw [z]; exact e else hy y (by omega)), fun q => absurd (lg_self _) q⟩
          · refine ⟨fun q => absurd q (fun z => e ((lN_eq (by omega) (by omega)).mp ((lg_eqv _ _).mp z))), fun _ => h S (FrI.refl _ _) (XI.none ?_ h39 hta (fun _ => rfl))⟩
            unfold rowsN
            rw [if_neg]
            exact fun z => e (of_decide_eq_true z i (by omega))
  exact e_Md_counts rfl (key1 n 0 (by omega) (fun y hy => absurd hy (Nat.not_lt_zero y)))
end SM
