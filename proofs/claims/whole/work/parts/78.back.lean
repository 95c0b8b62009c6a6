/-! pass and back: the calls -/
/-- the last step of a call that changed the green that is now -/
theorem Inv.fin {S S1 S2 : aw_S} {a b : Nat} {g g' : GM} {x : Int32} (h : Inv S) (N : NowI S a b g) (F1 : FrI (fun k j => YI a k j ∧ k ≠ 115 ∧ ¬ (k = 114 ∧ j = 2)) S S1) (F2 : FrI (fun k j => YI a k j ∧ ¬ (a ≤ k ∧ k ≤ a + 7) ∧ ¬ (k = 0 ∧ j = 3)) (aw_uI S1 0 3 x) S2) (hb : bdG g') (hn : g'.n = g.n) (hr : redN g'.n g'.f g'.m) (hG : GrG S1.1 a g') (hM : MdG S2.1 0 g') (hd : S2.1 115 4 = S1.1 a 3 + S1.1 a 4) : Inv (aw_uI S2 114 2 x) := by
  have ha := N.2.2.1
  have e1 : ∀ k, a ≤ k → k ≤ a + 7 → S2.1 k = S1.1 k := fun k q1 q2 => by
    rw [F2.cell (k := k) (fun j z => z.2.1 ⟨q1, q2⟩), uI_ne _ _ _ (by omega)]
  refine h.upG N (fun k j q => ?_) ?_ hb hn hr ?_ ?_ ?_ ?_
  · have n1 : ¬ (k = 114 ∧ j = 2) := fun z => q (by unfold YI; omega)
    have n2 : ¬ (k = 0 ∧ j = 3) := fun z => q (by unfold YI; omega)
    rw [uI_at]
    have e : (if k = 114 then (if j = 2 then x else S2.1 114 j) else S2.1 k j) = S2.1 k j := by
      by_cases c : k = 114
      · rw [if_pos c, if_neg (fun z => n1 ⟨c, z⟩), c]
      · rw [if_neg c]
    rw [e, F2.1 k j (fun z => q z.1), uI_at]
    have e : (if k = 0 then (if j = 3 then x else S1.1 0 j) else S1.1 k j) = S1.1 k j := by
      by_cases c : k = 0
      · rw [if_pos c, if_neg (fun z => n2 ⟨c, z⟩), c]
      · rw [if_neg c]
    rw [e]
    exact F1.1 k j (fun z => q z.1)
  · show S2.2 = S.2
    rw [F2.2]
    exact F1.2
  · refine hG.fr (fun k q1 q2 => ?_)
    rw [uI_ne _ _ _ (by omega)]
    exact e1 k q1 (by omega)
  · refine hM.fr hb.1 hb.2.2.2.2.1 (fun j _ => ?_)
    rw [uI_ne _ _ _ (by omega)]
  · rw [uI_ne _ _ _ (by omega), uI_ne _ _ _ (by omega), e1 a (by omega) (by omega)]
    exact hd
  · rw [uI_ne _ _ _ (by omega), F2.1 0 3 (fun z => z.2.2 ⟨rfl, rfl⟩), uI_at, uI_at]
    rfl
theorem fr_c {S S' : aw_S} {a : Nat} (h : FrI (GX a) S S') (ha : a = 11 ∨ a = 26) : FrI (fun k j => YI a k j ∧ k ≠ 115 ∧ ¬ (k = 114 ∧ j = 2)) S S' := h.mono (fun k j q => by unfold GX at q; unfold YI; omega)
theorem fr_m {S S' : aw_S} {a : Nat} (h : FrI MXd S S') (ha : a = 11 ∨ a = 26) : FrI (fun k j => YI a k j ∧ ¬ (a ≤ k ∧ k ≤ a + 7) ∧ ¬ (k = 0 ∧ j = 3)) S S' := h.mono (fun k j q => by unfold MXd at q; unfold YI; omega)
theorem NowI.ab {S : aw_S} {a b : Nat} {g : GM} (N : NowI S a b g) : a = 11 ∨ a = 26 := by
  have := N.2.2.1
  omega
theorem ok_pass (l : Launch) : Ok_pass l 0 114 sh0 Inv := by
  intro S hI x w hw
  obtain ⟨a, b, g, N⟩ := hI.now
  have hS := N.S hI.rf
  have hM := MdS.mk0 hI.rf
  obtain ⟨n1, n2, n3, n4, n5, n6, n7, n8, n9, n10⟩ := id N
  have hn : g.n ≤ 7 := n4.1
  have hab := N.ab
  have fr0 : ∀ (T : aw_S) (v : Int32), (aw_uI T 0 3 v).1 115 = T.1 115 := fun T v => uI_ne _ _ _ (by omega)
  refine e_Mg_pass rfl (sp_Mg_isGap (d := 197) n1 hS.sa hn n6.1 (fun hx => ⟨fun _ => ⟨a, n1, ?_⟩, fun q => absurd q (by decide)⟩) (fun hx => ⟨fun q => absurd rfl q, fun _ => e_Mg_fail rfl ?_⟩))
  · obtain ⟨gap, hg, rfl⟩ := hx
    have e2 : (2 : Int32) * nI gap = nI (2 * gap) := by rw [show (2 : Int32) = nI 2 from rfl, pk_mul]
    rw [e2, nI_1]
    have main : ∀ over, over < 2 → w = nI over → Sp l m_Gr_makePass 199 0 0 [.ref a, .int (nI (2 * gap + over))] sh0 S (gI sh0 (fun x8 S7 => ((¬ x8 = (-1) → ∃ r10, S7.2.2 0 6 = some r10 ∧ sh0[r10]? = some (0, 2) ∧ ∃ r12, S7.2.2 r10 10 = some r12 ∧ sh0[r12]? = some (0, 3) ∧ Sp l m_Mg_give 199 0 0 [.ref 0, .int (S7.1 r12 1)] sh0 S7 (gI sh0 (fun x15 S14 => Sp l m_Md_pass 200 0 0 [.ref 114, .int (nI gap), .int w] sh0 S14 (gI sh0 (fun y S2 => x15 = y ∧ Inv S2))))) ∧ (x8 = (-1) → Sp l m_Mg_fail 199 0 0 [.ref 0, .int 7] sh0 S7 (gI sh0 (fun x17 S16 => Sp l m_Md_pass 200 0 0 [.ref 114, .int (nI gap), .int w] sh0 S16 (gI sh0 (fun y S2 => x17 = y ∧ Inv S2)))))))) := by
      intro over ho hw2
      obtain ⟨p1, p2, p3, p4, -, -⟩ := ps_ok n4 n5 hg ho
      refine sp_make (d := 195) hS n4 n6 hg ho (fun r S1 F G hr e3 e4 => ?_)
      have hMS : MdS sh0 S1.2.2 := by rw [F.R]; exact hM
      have c115 : S1.1 115 = S.1 115 := F.cell (fun j => by unfold GX; omega)
      have inv : ∀ (y : Int32) S2, FrI MXd (aw_uI S1 0 3 y) S2 → MdG S2.1 0 (psG g gap over).2 → S2.1 115 4 = S1.1 115 4 + k1 (psG g gap over).1 + k2 (psG g gap over).1 → Inv (aw_uI S2 114 2 y) := by
        intro y S2 F2 M2 e2
        refine hI.fin N (fr_c F hab) (fr_m F2 hab) p1 p3 p2 G M2 ?_
        rw [e2, c115, n8, e3, e4]
        simp only [Int32.add_assoc]
        congr 1
        rw [← Int32.add_assoc, ← Int32.add_assoc, Int32.add_comm (S.1 a 4)]
      have ref : ∀ (y : Int32) (Z : Int32 → Prop), (((psG g gap over).1 = 0 → y = 7 ∧ Z (-1)) ∧ (¬ (psG g gap over).1 = 0 → y = 0 ∧ Z (nI (psG g gap over).2.m))) → Sp l m_Md_pass 200 0 0 [.ref 114, .int (nI gap), .int w] sh0 (aw_uI S1 0 3 y) (gI sh0 (fun z S2 => Z z ∧ Inv S2)) := by
        intro y Z hZ
        have M1 : MdG (aw_uI S1 0 3 y).1 0 g := n7.fr hn n4.2.2.2.2.1 (fun j _ => by rw [fr0, c115])
        have dn : Sp l m_Md_danced 199 0 0 [.ref 114, .int (nI gap), .int (nI over)] sh0 (aw_uI S1 0 3 y) (gI sh0 (fun x6 S5 => ((¬ x6 = 0 → ∃ r8, S5.2.2 114 0 = some r8 ∧ ∃ n10, sh0[r8]? = some (3, n10) ∧ vp_in 3 n10 ∧ Sp l m_Md_gives 199 0 0 [.ref 114, .int (S5.1 r8 (3 : Int32).toNatClampNeg)] sh0 S5 (gI sh0 (fun x13 S12 => Z x13 ∧ Inv S12))) ∧ (x6 = 0 → Sp l m_Md_refuse 199 0 0 [.ref 114, .int 7] sh0 S5 (gI sh0 (fun x15 S14 => Z x15 ∧ Inv S14)))))) := by
          refine sp_danced (d := 195) hMS n4 n5 M1 hg ho (fun S2 F2 M2 e2 => ⟨fun q => ?_, fun q => ?_⟩)
          · have hk : ¬ (psG g gap over).1 = 0 := fun z => q (by rw [z]; rfl)
            obtain ⟨ey, hz⟩ := hZ.2 hk
            subst ey
            refine ⟨115, by rw [F2.R]; exact hMS.2.1, 3864, rfl, vp_in_nI (n := 3) (by omega) (by omega), e_Md_gives rfl ⟨?_, inv 0 S2 F2 M2 (by rw [e2, fr0])⟩⟩
            have e := M2.2.2.2.1
            show Z (S2.1 115 3)
            rw [Nat.zero_add] at e
            rw [e]
            exact hz
          · have hk : (psG g gap over).1 = 0 := (nI_inj (b := 0) (by omega) (by omega)).mp q
            obtain ⟨ey, hz⟩ := hZ.1 hk
            subst ey
            exact e_Md_refuse rfl ⟨hz, inv 7 S2 F2 M2 (by rw [e2, fr0])⟩
        refine e_Md_pass rfl (sp_Md_isGap (d := 197) hMS hn M1.1 (fun _ => ⟨fun _ => ⟨fun z => ?_, fun z => ?_⟩, fun q => absurd q (by decide)⟩) (fun z => absurd ⟨gap, hg, rfl⟩ z))
        · have : over = 0 := (nI_inj (b := 0) (by omega) (by omega)).mp (hw2.symm.trans z)
          subst this
          exact dn
        · have : over = 1 := by
            have : ¬ over = 0 := fun q => z (by rw [hw2, q]; rfl)
            omega
          subst this
          exact dn
      refine ⟨fun q => ⟨a, by rw [F.R]; exact n1, hS.sa, a + 6, by rw [F.R]; exact hS.r10, hS.s6, e_Mg_give rfl ?_⟩, fun q => e_Mg_fail rfl ?_⟩
      · rw [G.2.2.2.1]
        exact ref 0 (fun z => nI (psG g gap over).2.m = z) ⟨fun z => absurd (hr.mp z) q, fun _ => ⟨rfl, rfl⟩⟩
      · exact ref 7 (fun z => -1 = z) ⟨fun _ => ⟨rfl, rfl⟩, fun z => absurd (hr.mpr q) z⟩
    rcases hw with hw | hw
    · subst hw
      exact ⟨fun _ => ⟨hS.sa, main 0 (by omega) rfl⟩, fun q => absurd rfl q⟩
    · subst hw
      exact ⟨fun q => absurd q (by decide), fun _ => ⟨hS.sa, main 1 (by omega) rfl⟩⟩
  · refine e_Md_pass rfl (sp_Md_isGap (d := 197) (n := g.n) hM hn ?_ (fun z => absurd z hx) (fun _ => ⟨fun q => absurd rfl q, fun _ => e_Md_refuse rfl ⟨rfl, hI.st rfl⟩⟩))
    rw [fr0]
    exact n7.1

theorem sp_undoes {l : Launch} {d : Nat} {sh : aw_SH} {S : aw_S} {g : GM} {P : Int32 → aw_S → Prop} (hS : MdS sh S.2.2) (hb : bdG g) (H : MdG S.1 0 g)
    (h1 : ∀ S', 0 < g.m → FrI MXd S S' → MdG S'.1 0 (rmG g (g.m - 1)) → S'.1 115 4 = S.1 115 4 + 1 → P 1 S') (h0 : g.m = 0 → P 0 S) : Sp l m_Md_undoes (d + 1 + 1 + 1) 0 0 [.ref 114] sh S (gI sh P) := by
  have hm : g.m ≤ 40 := hb.2.2.2.2.1
  have hn : g.n ≤ 7 := hb.1
  obtain ⟨y0, y1, y2, y3, y4, y5, y6⟩ := id H
  refine e_Md_undoes hS.1 ⟨115, hS.2.1, 3864, hS.2.2, vp_in_nI (n := 3) (by omega) (by omega), ?_⟩
  show ((0 ≤ S.1 115 3 - 1 → Sp l m_Md_passOf _ 0 0 [.ref 114, .int (S.1 115 3 - 1), .int 0] sh S _) ∧ (¬ 0 ≤ S.1 115 3 - 1 → P 0 S))
  rw [Nat.zero_add] at y3
  rw [y3]
  by_cases c : g.m = 0
  · rw [c]
    exact ⟨fun q => absurd q (by decide), fun _ => h0 c⟩
  · have e : nI g.m - 1 = nI (g.m - 1) := pk_sub (b := 1) (by omega)
    rw [e]
    have hk : g.m - 1 < g.m := by omega
    refine ⟨fun _ => e_Md_passOf hS.1 ⟨115, hS.2.1, e_Md_plaitRow ⟨3864, hS.2.2, ?_⟩⟩, fun q => absurd (nI_pos' (by omega)) q⟩
    have er := (y4 (g.m - 1) hk).1
    rw [show 0 + 24 + 4 * (g.m - 1) = 24 + 4 * (g.m - 1) by omega] at er
    rw [nRow, nA0, nI_clamp (by omega), er]
    refine ⟨vp_in_nI (by omega) (by omega), ?_⟩
    have b1 := (hb.2.2.2.2.2.1 _ hk).2.1
    refine sp_Md_swaps (s := 0) (std := g.std) hS (by omega) hn b1 y0 y6 (fun S1 F1 W => ?_)
    rw [show S.1 115 (Int32.toNatClampNeg 3) - 1 = nI (g.m - 1) from (congrArg (fun v => v - 1) y3).trans e]
    refine sp_Md_loses (s := 0) (m := g.m) (by rw [F1.R]; exact hS) (by omega) hm hk (by rw [F1.1 115 _ (by omega)]; exact H.2.2.2.1) (fun S2 F2 w3 w4 => ?_)
    have G := MdG.rem hb H hk F1 W F2 w3 w4
    refine ⟨115, by rw [F2.R, F1.R]; exact hS.2.1, 3864, hS.2.2, vp_in_nI (n := 4) (by omega) (by omega), vp_in_nI (n := 4) (by omega) (by omega), ?_⟩
    show P 1 (aw_uI S2 115 4 (S2.1 115 4 + 1))
    refine h1 _ (by omega) ?_ ?_ ?_
    · exact ((F1.mono (fun c j q => by unfold MXd; omega)).trans (F2.mono (fun c j q => by unfold MXd; omega))).uI _ (by unfold MXd; omega)
    · exact G.d4 (hb.rem hk) (fun j hj => by rw [uI_at, if_pos rfl, if_neg hj])
    · rw [uI_at, if_pos rfl, if_pos rfl, F2.1 115 4 (by omega), F1.1 115 4 (by omega)]
theorem ok_back (l : Launch) : Ok_back l 0 114 sh0 Inv := by
  intro S hI
  obtain ⟨a, b, g, N⟩ := hI.now
  have hS := N.S hI.rf
  have hM := MdS.mk0 hI.rf
  obtain ⟨n1, n2, n3, n4, n5, n6, n7, n8, n9, n10⟩ := id N
  have hn : g.n ≤ 7 := n4.1
  have hab := N.ab
  have fr0 : ∀ (T : aw_S) (v : Int32), (aw_uI T 0 3 v).1 115 = T.1 115 := fun T v => uI_ne _ _ _ (by omega)
  refine e_Mg_back rfl ⟨a, n1, hS.sa, sp_Gr_doBack (d := 195) hS n4 n6 (fun S1 hp F G e3 e4 => ⟨fun q => absurd q (by decide), fun _ => ⟨a, by rw [F.R]; exact n1, hS.sa, a + 6, by rw [F.R]; exact hS.r10, hS.s6, e_Mg_give rfl ?_⟩⟩) (fun e0 => ⟨fun _ => e_Mg_fail rfl ?_, fun q => absurd rfl q⟩)⟩
  · have c115 : S1.1 115 = S.1 115 := F.cell (fun j => by unfold GX; omega)
    have M1 : MdG (aw_uI S1 0 3 0).1 0 g := n7.fr hn n4.2.2.2.2.1 (fun j _ => by rw [fr0, c115])
    refine e_Md_back rfl (sp_undoes (d := 196) (by rw [uI_R, F.R]; exact hM) n4 M1 (fun S2 _ F2 M2 e2 => ⟨fun q => absurd q (by decide), fun _ => ⟨115, by rw [F2.R, uI_R, F.R]; exact hM.2.1, 3864, rfl, vp_in_nI (n := 3) (by omega) (by omega), e_Md_gives rfl ⟨?_, ?_⟩⟩⟩) (fun z => absurd z (by omega)))
    · have e := M2.2.2.2.1
      rw [Nat.zero_add] at e
      show _ = S2.1 115 3
      rw [e]
      exact G.2.2.2.1
    · refine hI.fin N (fr_c F hab) (fr_m F2 hab) (n4.rem (by omega)) rfl (red_rem n5 (fun o h1 h2 => by omega)) G M2 ?_
      rw [e2, fr0, c115, n8, e3, e4, Int32.add_assoc]
  · refine e_Md_back rfl (sp_undoes (d := 196) (g := g) hM n4 (n7.fr hn n4.2.2.2.2.1 (fun j _ => by rw [fr0])) (fun S2 z => absurd z (by omega)) (fun _ => ⟨fun _ => e_Md_refuse rfl ⟨rfl, hI.st rfl⟩, fun q => absurd rfl q⟩))
