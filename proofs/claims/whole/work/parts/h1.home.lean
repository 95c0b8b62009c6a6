/-! homeward, homewardAt -/
section HAT
variable {l : Launch} {d n : Nat} {S : aw_S} {x : List Nat}
theorem ha_52 {P : Int32 → aw_S → Prop} {X : List Nat} {j i : Nat} (hn : n ≤ 7) (hR : RefsOk S.2.2) (h0 : S.1 115 0 = nI n) (hh : ∀ y, isO n y → S.1 125 (nuL y 0) = nI (fwL n y)) (hX : isO n X) (hf : 0 < fwL n X) (cont : ∀ W, FrI HO S W → (∀ p, p < n → W.1 127 p = nI (atL (swL n X (fsG n X)) p)) → AW l m_Md_homewardAt (d + 2) 0 0 (gI sh0 P) 0 0 41 [.ref 114, .int (nI j), .int (nI (nuL (swL n X (fsG n X)) 0)), .int (nI (fsG n X)), .int (nI (i + 1)), .null] [] sh0 W) : ∀ m h W, h + m = fsG n X → FrI HO S W → (∀ p, p < n → W.1 127 p = nI (atL X p)) → AW l m_Md_homewardAt (d + 2) 0 0 (gI sh0 P) 0 0 52 [.ref 114, .int (nI j), .int (nI (nuL X 0)), .int (nI h), .int (nI i), .int 0] [] sh0 W := by
  obtain ⟨q1, q2, q3⟩ := fs_ok hn hX hf
  have fle := fc_le n (by omega)
  have nX := (hX.ck hn).1
  have b1 := fw_lt hn hX
  have ef : nI (fwL n X) - 1 = nI (fwL n X - 1) := by
    have := nI_pred (fwL n X - 1)
    rw [show fwL n X - 1 + 1 = fwL n X by omega] at this
    exact this
  intro m
  induction m with
  | zero =>
    intro h W hm F c
    have hm : h = fsG n X := hm
    subst hm
    have hRW : RefsOk W.2.2 := by rw [F.R]; exact hR
    have h0W : W.1 115 0 = nI n := by rw [F.1 115 0 (by unfold HO; omega)]; exact h0
    refine s_Md_homewardAt_52 rfl ⟨fun z => absurd rfl z, fun _ => sp_turnsOrder (d := d) hn hRW h0W hX.ln q1 c (fun S4 F4 c4 => ?_)⟩
    have F4' := F.trans F4
    have hR4 : RefsOk S4.2.2 := by rw [F4'.R]; exact hR
    have h04 : S4.1 115 0 = nI n := by rw [F4'.1 115 0 (by unfold HO; omega)]; exact h0
    have hY := hX.sw q1
    have nY := (hY.ck hn).1
    refine ⟨125, hR4.at (by decide), sp_orderNumber (d := d) hn hR4 h04 hY c4 ⟨5040, rfl, vp_in_nI (by omega) (by omega), 125, hR4.at (by decide), 5040, rfl, vp_in_nI (by omega) (by omega), ?_⟩⟩
    rw [nI_clamp (by omega), nI_clamp (by omega), F4'.1 125 _ (by unfold HO; omega), F4'.1 125 _ (by unfold HO; omega), hh _ hY, hh _ hX, ef, nA0]
    refine ⟨fun z => absurd (by rw [show fwL n X - 1 = fwL n (swL n X (fsG n X)) by omega]) z, fun _ => s_Md_homewardAt_52 rfl ⟨fun _ => sp_orderNumber (d := d) hn hR4 h04 hY c4 ?_, fun z => absurd z (by decide)⟩⟩
    rw [nI_1]
    exact cont S4 F4' c4
  | succ m ih =>
    intro h W hm F c
    have hg : h < gpN n := by omega
    have hRW : RefsOk W.2.2 := by rw [F.R]; exact hR
    have h0W : W.1 115 0 = nI n := by rw [F.1 115 0 (by unfold HO; omega)]; exact h0
    refine s_Md_homewardAt_52 rfl ⟨fun z => absurd rfl z, fun _ => sp_turnsOrder (d := d) hn hRW h0W hX.ln hg c (fun S4 F4 c4 => ?_)⟩
    have F4' := F.trans F4
    have hR4 : RefsOk S4.2.2 := by rw [F4'.R]; exact hR
    have h04 : S4.1 115 0 = nI n := by rw [F4'.1 115 0 (by unfold HO; omega)]; exact h0
    have hY := hX.sw hg
    have nY := (hY.ck hn).1
    have b2 := fw_lt hn hY
    have b3 := q3 h (by omega)
    refine ⟨125, hR4.at (by decide), sp_orderNumber (d := d) hn hR4 h04 hY c4 ⟨5040, rfl, vp_in_nI (by omega) (by omega), 125, hR4.at (by decide), 5040, rfl, vp_in_nI (by omega) (by omega), ?_⟩⟩
    rw [nI_clamp (by omega), nI_clamp (by omega), F4'.1 125 _ (by unfold HO; omega), F4'.1 125 _ (by unfold HO; omega), hh _ hY, hh _ hX, ef, nI_1]
    refine ⟨fun _ => sp_turnsOrder (d := d) (x := swL n X h) hn hR4 h04 (by rw [sw_ln]; exact hX.ln) hg c4 (fun S7 F7 c7 => ?_), fun z => absurd ((nI_inj (by omega) (by omega)).mp z) (by omega)⟩
    rw [swL2 hX.ln hg] at c7
    exact ih (h + 1) S7 (by omega) (F4'.trans F7) c7
theorem ha_41 {P : Int32 → aw_S → Prop} {j : Nat} (hn : n ≤ 7) (hR : RefsOk S.2.2) (h0 : S.1 115 0 = nI n) (hh : ∀ y, isO n y → S.1 125 (nuL y 0) = nI (fwL n y)) (hx : isO n x) (hj : j < fwL n x) (k : ∀ W, FrI HO S W → Sp l m_Md_gives (d + 1) 0 0 [.ref 114, .int (nI (fsG n (stK n x j)))] sh0 W (gI sh0 (fun x3 S2 => P x3 S2))) : ∀ m i W v, i + m = j + 1 → FrI HO S W → (∀ p, p < n → W.1 127 p = nI (atL (stK n x i) p)) → (i = j + 1 → v = nI (fsG n (stK n x j))) → AW l m_Md_homewardAt (d + 2) 0 0 (gI sh0 P) 0 0 41 [.ref 114, .int (nI j), .int (nI (nuL (stK n x i) 0)), .int v, .int (nI i), .null] [] sh0 W := by
  have b1 := fw_lt hn hx
  intro m
  induction m with
  | zero =>
    intro i W v hi F _ hv
    have hi : i = j + 1 := hi
    refine s_Md_homewardAt_41 rfl ⟨fun _ => ?_, fun z => absurd (nI_lt (by omega) (by omega)) z⟩
    rw [hv hi]
    exact k W F
  | succ m ih =>
    intro i W v hi F c _
    obtain ⟨x1, x2⟩ := stK_ok hn hx i (by omega)
    have hRW : RefsOk W.2.2 := by rw [F.R]; exact hR
    have h0W : W.1 115 0 = nI n := by rw [F.1 115 0 (by unfold HO; omega)]; exact h0
    refine s_Md_homewardAt_41 rfl ⟨fun z => absurd ((nI_ltI (by omega) (by omega)).mp z) (by omega), fun _ => ?_⟩
    refine ha_52 hn hRW h0W (fun y hy => by rw [F.1 125 _ (by unfold HO; omega)]; exact hh y hy) x1 (by omega) (fun W' F' c' => ?_) (fsG n (stK n x i)) 0 W (by omega) (FrI.refl _ W) c
    exact ih (i + 1) W' _ (by omega) (F.trans F') c' (fun e => by rw [show i = j by omega])
theorem sp_Md_homewardAt {P : Int32 → aw_S → Prop} {g : GM} {j : Nat} (hj : j < 2 ^ 31) (hR : RefsOk S.2.2) (hb : bdG g) (H : MdG S.1 0 g) (k1 : j < fwL g.n (lsN g.std g.n 0) → ∀ W, FrI HH S W → Sp l m_Md_gives (d + 3) 0 0 [.ref 114, .int (nI (fsG g.n (stK g.n (lsN g.std g.n 0) j)))] sh0 W (gI sh0 (fun x3 S2 => P x3 S2))) (k0 : fwL g.n (lsN g.std g.n 0) ≤ j → ∀ W, FrI HH S W → Sp l m_Md_refuse (d + 3) 0 0 [.ref 114, .int 6] sh0 W (gI sh0 (fun x3 S2 => P x3 S2))) : Sp l m_Md_homewardAt (d + 4) 0 0 [.ref 114, .int (nI j)] sh0 S (gI sh0 P) := by
  have hn : g.n ≤ 7 := hb.1
  have hx := isO.of hb
  have b1 := fw_lt hn hx
  have fle := fc_le g.n (by omega)
  have nX := (hx.ck hn).1
  refine e_Md_homewardAt rfl ⟨fun _ => sp_laysHome (d := d) hn hR H.1 (fun S2 F2 hh => ?_), fun z => absurd (nI_pos' hj) z⟩
  have M2 : MdG S2.1 0 g := H.fr hb.1 hb.2.2.2.2.1 (fun j _ => by rw [F2.cell (k := 115) (fun j => by unfold HH; omega)])
  have hR2 : RefsOk S2.2.2 := by rw [F2.R]; exact hR
  refine sp_orderNow (d := d + 1) hR2 hb M2 (fun S3 F3 c3 => ?_)
  have hR3 : RefsOk S3.2.2 := by rw [F3.R]; exact hR2
  have hh3 : ∀ y, isO g.n y → S3.1 125 (nuL y 0) = nI (fwL g.n y) := fun y hy => by rw [F3.1 125 _ (by unfold HO; omega)]; exact hh y hy
  have HOH : ∀ {U V : aw_S}, FrI HO U V → FrI HH U V := fun F => F.mono (fun k j q => Or.inr (Or.inr q))
  refine ⟨125, hR3.at (by decide), 5040, rfl, vp_in_nI (by omega) (by omega), ?_⟩
  rw [nI_clamp (by omega), hh3 _ hx]
  refine ⟨fun z => ?_, fun z => k0 (Nat.not_lt.mp (fun y => z (nI_lt y (by omega)))) S3 (F2.trans (HOH F3))⟩
  have hlt := (nI_ltI (by omega) (by omega)).mp z
  exact ha_41 (d := d + 2) hn hR3 (by rw [F3.1 115 0 (by unfold HO; omega)]; exact M2.1) hh3 hx hlt (fun W F => k1 hlt W ((F2.trans (HOH F3)).trans (HOH F))) (j + 1) 0 S3 0 (by omega) (FrI.refl _ S3) c3 (fun e => by omega)
end HAT
theorem ok_homeward (l : Launch) : Ok_homeward l 0 114 sh0 Inv := by
  intro S hI
  obtain ⟨a, b, g, N⟩ := hI.now
  have hS := N.S hI.rf
  have hab := N.ab
  obtain ⟨n1, n2, n3, n4, n5, n6, n7, n8, n9, n10⟩ := id N
  have hn : g.n ≤ 7 := n4.1
  have fle := fc_le g.n (by omega)
  have hx := isO.of n4
  have nX := (hx.ck hn).1
  refine e_Mg_homeward rfl ⟨99, hI.rf.at (by decide), a, n1, rfl, sp_Ho_fewest (d := 196) hS hab hI.rf n4 n6 (fun S1 F1 _ => e_Mg_give rfl ?_)⟩
  have M1 : MdG (aw_uI S1 0 3 0).1 0 g := n7.fr n4.1 n4.2.2.2.2.1 (fun j _ => by rw [uI_ne _ _ _ (by omega), F1.cell (k := 115) (fun j => by unfold HZ; omega)])
  have hR1 : RefsOk (aw_uI S1 0 3 0).2.2 := by rw [uI_R, F1.R]; exact hI.rf
  refine e_Md_homeward rfl (sp_laysHome (d := 196) hn hR1 M1.1 (fun S2 F2 hh => ?_))
  have M2 : MdG S2.1 0 g := M1.fr n4.1 n4.2.2.2.2.1 (fun j _ => by rw [F2.cell (k := 115) (fun j => by unfold HH; omega)])
  have hR2 : RefsOk S2.2.2 := by rw [F2.R]; exact hR1
  refine ⟨125, hR2.at (by decide), sp_orderNow (d := 197) hR2 n4 M2 (fun S3 F3 _ => ⟨5040, rfl, vp_in_nI (by omega) (by omega), ?_⟩)⟩
  rw [nI_clamp (by omega), F3.1 125 _ (by unfold HO; omega), hh _ hx]
  exact e_Md_gives rfl ⟨rfl, hI.scr N (F1.mono (fun k j q => by unfold HZ at q; omega)) ((F2.trans (F3.mono (fun k j q => Or.inr (Or.inr q)))).mono (fun k j q => by unfold HH at q; omega))⟩
theorem ok_homewardAt (l : Launch) : Ok_homewardAt l 0 114 sh0 Inv := by
  intro S hI x
  obtain ⟨a, b, g, N⟩ := hI.now
  have hS := N.S hI.rf
  have hab := N.ab
  obtain ⟨n1, n2, n3, n4, n5, n6, n7, n8, n9, n10⟩ := id N
  have hn : g.n ≤ 7 := n4.1
  refine e_Mg_homewardAt rfl ⟨fun z => ?_, fun z => e_Mg_fail rfl (e_Md_homewardAt rfl ⟨fun y => absurd y z, fun _ => e_Md_refuse rfl ⟨rfl, hI.st rfl⟩⟩)⟩
  obtain ⟨j, hj, rfl⟩ := nI_of (x := x) (Int32.not_lt.mpr z)
  have M1 : ∀ {S1 : aw_S} (v : Int32), FrI HZ S S1 → MdG (aw_uI S1 0 3 v).1 0 g := fun v F1 => n7.fr n4.1 n4.2.2.2.2.1 (fun j _ => by rw [uI_ne _ _ _ (by omega), F1.cell (k := 115) (fun j => by unfold HZ; omega)])
  have hR1 : ∀ {S1 : aw_S} (v : Int32), FrI HZ S S1 → RefsOk (aw_uI S1 0 3 v).2.2 := fun v F1 => by rw [uI_R, F1.R]; exact hI.rf
  have gle : gpN g.n ≤ 7 := by
    unfold gpN
    split
    · omega
    · split <;> omega
  refine ⟨99, hI.rf.at (by decide), a, n1, rfl, sp_gapOnWay (d := 195) hS hab hI.rf n4 n6 hj (fun S1 hlt F1 => ⟨fun _ => e_Mg_give rfl ?_, fun y => ?_⟩) (fun S1 hle F1 => ⟨fun y => absurd rfl y, fun _ => e_Mg_fail rfl ?_⟩)⟩
  · exact sp_Md_homewardAt (d := 196) hj (hR1 0 F1) n4 (M1 0 F1) (fun _ W F => e_Md_gives rfl ⟨rfl, hI.scr N (F1.mono (fun k j q => by unfold HZ at q; omega)) (F.mono (fun k j q => by unfold HH at q; omega))⟩) (fun z => by omega)
  · obtain ⟨x1, x2⟩ := stK_ok hn (isO.of n4) j (by omega)
    have := (fs_ok hn x1 (by omega)).1
    exact absurd y (nI_ne_m1 (by omega))
  · exact sp_Md_homewardAt (d := 196) hj (hR1 6 F1) n4 (M1 6 F1) (fun z => by omega) (fun _ W F => e_Md_refuse rfl ⟨rfl, hI.scr N (F1.mono (fun k j q => by unfold HZ at q; omega)) (F.mono (fun k j q => by unfold HH at q; omega))⟩)
