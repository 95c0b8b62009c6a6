/-! homeward: the class's fewest, firstNearer, gapOnWay -/
theorem isO.of {g : GM} (hb : bdG g) : isO g.n (lsN g.std g.n 0) := ⟨g.std, rfl, hb.2.2.2.2.2.2.2.1, hb.2.2.2.2.2.2.2.2⟩
def HZ (k _j : Nat) : Prop := k = 100 ∨ k = 101
section HFE
variable {l : Launch} {d a n : Nat} {S : aw_S} {g : GM} {x : List Nat}
theorem sp_Ho_fewest {P : Int32 → aw_S → Prop} (hS : GrS sh0 S.2.2 a) (hab : a = 11 ∨ a = 26) (hR : RefsOk S.2.2) (hb : bdG g) (H : GrG S.1 a g) (k : ∀ S', FrI HZ S S' → (∀ p, p < g.n → S'.1 100 p = nI (atL (lsN g.std g.n 0) p)) → P (nI (fwL g.n (lsN g.std g.n 0))) S') : Sp l m_Ho_fewest (d + 3) 0 0 [.ref 99, .ref a] sh0 S (gI sh0 P) := by
  have hn : g.n ≤ 7 := hb.1
  have F : FrI (fun k _ => k = 100) S (aw_cpi S (a + 5) 100 0 0 7) := (cpi_step (n := 7) (by omega)).1
  have c : ∀ j, j < 7 → (aw_cpi S (a + 5) 100 0 0 7).1 100 j = S.1 (a + 5) j := fun j hj => (cpi_step (n := 7) (by omega)).2 j hj
  refine e_Ho_fewest rfl ⟨hS.sa, a + 5, hS.r9, 100, hR.at (by decide), 7, hS.s5, 7, rfl, by decide, by decide, by decide, by decide, by decide, ?_⟩
  have e0 : (aw_cpi S (a + 5) 100 0 0 7).1 a 0 = nI g.n := by rw [F.1 a 0 (by omega)]; exact H.1
  rw [e0]
  have cc : ∀ p, p < g.n → (aw_cpi S (a + 5) 100 0 0 7).1 100 p = nI (atL (lsN g.std g.n 0) p) := fun p hp => by
    rw [c p (by omega), lsN_at g.std g.n 0 p hp, Nat.zero_add]
    exact (H.2.2.2.2.2.2.1 p hp).1
  refine sp_fewestFrom (d := d) hn (by rw [F.R]; exact hR) (isO.of hb) cc (fun S' F' => k S' ((F.mono (fun k j q => Or.inl q)).trans (F'.mono (fun k j q => Or.inr q))) (fun p hp => ?_))
  rw [F'.1 100 p (by unfold HX; omega)]
  exact cc p hp
theorem sp_firstNearer {P : Int32 → aw_S → Prop} (sa : sh0[a]? = some (0, 2)) (hab : a = 11 ∨ a = 26) (hR : RefsOk S.2.2) (hn : n ≤ 7) (h0 : S.1 a 0 = nI n) (hx : isO n x) (hf : 0 < fwL n x) (hc : ∀ p, p < n → S.1 100 p = nI (atL x p)) (k : ∀ S', FrI HZ S S' → (∀ p, p < n → S'.1 100 p = nI (atL (swL n x (fsG n x)) p)) → P (nI (fsG n x)) S') : Sp l m_Ho_firstNearer (d + 3) 0 0 [.ref 99, .ref a, .int (nI (fwL n x))] sh0 S (gI sh0 P) := by
  obtain ⟨q1, q2, q3⟩ := fs_ok hn hx hf
  have b1 := fw_lt hn hx
  have gle : gpN n ≤ 7 := by
    unfold gpN
    split
    · omega
    · split <;> omega
  have key : ∀ m h W, h + m = fsG n x → FrI HZ S W → (∀ p, p < n → W.1 100 p = nI (atL x p)) → AW l m_Ho_firstNearer (d + 3) 0 0 (gI sh0 P) 0 0 8 [.ref 99, .ref a, .int (nI (fwL n x)), .int (nI (gpN n)), .int (nI h)] [] sh0 W := by
    intro m
    induction m with
    | zero =>
      intro h W hm F cW
      have hm : h = fsG n x := hm
      have hg : h < gpN n := by omega
      have hn1 := (gp_nx hg).1
      have hRW : RefsOk W.2.2 := by rw [F.R]; exact hR
      refine s_Ho_firstNearer_8 rfl ⟨fun z => absurd ((nI_leI (by omega) (by omega)).mp z) (by omega), fun _ => ⟨sa, sp_Gr_nextPlace sa hn hn1 (by rw [F.1 a 0 (by unfold HZ; omega)]; exact h0) (sp_exchange (d := d + 1) hn hRW hx.ln hg cW (fun S5 F5 c5 => ?_))⟩⟩
      have F5' : FrI HZ S S5 := F.trans (F5.mono (fun k j q => Or.inl q))
      have e0 : S5.1 a 0 = nI n := by rw [F5'.1 a 0 (by unfold HZ; omega)]; exact h0
      have b2 := fw_lt hn (hx.sw hg)
      rw [e0]
      refine sp_fewestFrom (d := d) hn (by rw [F5'.R]; exact hR) (hx.sw hg) c5 (fun S6 F6 => ⟨fun z => ?_, fun _ => ?_⟩)
      · have z := (nI_leI (by omega) (by omega)).mp z
        rw [hm] at z
        omega
      · rw [hm]
        refine k S6 (F5'.trans (F6.mono (fun k j q => Or.inr q))) (fun p hp => ?_)
        rw [F6.1 100 p (by unfold HX; omega), c5 p hp, hm]
    | succ m ih =>
      intro h W hm F cW
      have hg : h < gpN n := by omega
      have hn1 := (gp_nx hg).1
      have hRW : RefsOk W.2.2 := by rw [F.R]; exact hR
      refine s_Ho_firstNearer_8 rfl ⟨fun z => absurd ((nI_leI (by omega) (by omega)).mp z) (by omega), fun _ => ⟨sa, sp_Gr_nextPlace sa hn hn1 (by rw [F.1 a 0 (by unfold HZ; omega)]; exact h0) (sp_exchange (d := d + 1) hn hRW hx.ln hg cW (fun S5 F5 c5 => ?_))⟩⟩
      have F5' : FrI HZ S S5 := F.trans (F5.mono (fun k j q => Or.inl q))
      have e0 : S5.1 a 0 = nI n := by rw [F5'.1 a 0 (by unfold HZ; omega)]; exact h0
      have b2 := fw_lt hn (hx.sw hg)
      have b3 := q3 h (by omega)
      rw [e0]
      refine sp_fewestFrom (d := d) hn (by rw [F5'.R]; exact hR) (hx.sw hg) c5 (fun S6 F6 => ⟨fun _ => ?_, fun z => absurd (nI_le b3 (by omega)) z⟩)
      have F6' : FrI HZ S S6 := F5'.trans (F6.mono (fun k j q => Or.inr q))
      refine sp_Gr_nextPlace sa hn hn1 (by rw [F6'.1 a 0 (by unfold HZ; omega)]; exact h0) (sp_exchange (d := d + 1) (x := swL n x h) hn (by rw [F6'.R]; exact hR) (by rw [sw_ln]; exact hx.ln) hg (fun p hp => by rw [F6.1 100 p (by unfold HX; omega)]; exact c5 p hp) (fun S9 F9 c9 => ?_))
      rw [nI_1]
      rw [swL2 hx.ln hg] at c9
      exact ih (h + 1) S9 (by omega) (F6'.trans (F9.mono (fun k j q => Or.inl q))) c9
  exact e_Ho_firstNearer rfl ⟨sa, sp_Gr_gaps (d := d + 1) sa hn h0 (key (fsG n x) 0 S (by omega) (FrI.refl _ S) hc)⟩
theorem sp_gapOnWay {P : Int32 → aw_S → Prop} {j : Nat} (hS : GrS sh0 S.2.2 a) (hab : a = 11 ∨ a = 26) (hR : RefsOk S.2.2) (hb : bdG g) (H : GrG S.1 a g) (hj : j < 2 ^ 31) (k1 : ∀ S', j < fwL g.n (lsN g.std g.n 0) → FrI HZ S S' → P (nI (fsG g.n (stK g.n (lsN g.std g.n 0) j))) S') (k0 : ∀ S', fwL g.n (lsN g.std g.n 0) ≤ j → FrI HZ S S' → P (-1) S') : Sp l m_Ho_gapOnWay (d + 4) 0 0 [.ref 99, .ref a, .int (nI j)] sh0 S (gI sh0 P) := by
  have hn : g.n ≤ 7 := hb.1
  have hx := isO.of hb
  have b1 := fw_lt hn hx
  refine e_Ho_gapOnWay rfl (sp_Ho_fewest (d := d) hS hab hR hb H (fun S1 F1 c1 => ⟨fun z => ?_, fun z => k0 S1 (Nat.not_lt.mp (fun y => z (nI_lt y (by omega)))) F1⟩))
  have hlt := (nI_ltI (by omega) (by omega)).mp z
  have key : ∀ m i W v, i + m = j + 1 → FrI HZ S W → (∀ p, p < g.n → W.1 100 p = nI (atL (stK g.n (lsN g.std g.n 0) i) p)) → (i = j + 1 → v = nI (fsG g.n (stK g.n (lsN g.std g.n 0) j))) → AW l m_Ho_gapOnWay (d + 4) 0 0 (gI sh0 P) 0 0 19 [.ref 99, .ref a, .int (nI j), .int (nI (fwL g.n (lsN g.std g.n 0))), .int v, .int (nI i)] [] sh0 W := by
    intro m
    induction m with
    | zero =>
      intro i W v hi F _ hv
      have hi : i = j + 1 := hi
      refine s_Ho_gapOnWay_19 rfl ⟨fun _ => ?_, fun y => absurd (nI_lt (by omega) (by omega)) y⟩
      rw [hv hi]
      exact k1 W hlt F
    | succ m ih =>
      intro i W v hi F cW hv
      obtain ⟨x1, x2⟩ := stK_ok hn hx i (by omega)
      refine s_Ho_gapOnWay_19 rfl ⟨fun y => absurd ((nI_ltI (by omega) (by omega)).mp y) (by omega), fun _ => ?_⟩
      rw [pk_sub (by omega), show fwL g.n (lsN g.std g.n 0) - i = fwL g.n (stK g.n (lsN g.std g.n 0) i) by omega]
      refine sp_firstNearer (d := d) hS.sa hab (by rw [F.R]; exact hR) hn (by rw [F.1 a 0 (by unfold HZ; omega)]; exact H.1) x1 (by omega) cW (fun S2 F2 c2 => ?_)
      rw [nI_1]
      refine ih (i + 1) S2 _ (by omega) (F.trans F2) c2 (fun e => ?_)
      rw [show i = j by omega]
  exact key (j + 1) 0 S1 (-1) (by omega) F1 c1 (fun e => by omega)
end HFE
