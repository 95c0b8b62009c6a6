/-! same, apart, slips, slipAt -/
theorem ap_len {t : Nat → Nat → Bool} {iv : Nat → Nat} {x : Nat} : ∀ w : List Nat, (ap t iv w x).length ≤ w.length + 1 := by
  have key : ∀ w w' : List Nat, rdx t iv w x = some w' → w'.length ≤ w.length := by
    intro w
    induction w with
    | nil => intro w' h; exact absurd h (by unfold rdx; simp)
    | cons h w ih =>
      intro w' hw
      cases c : t h x with
      | true =>
        rw [rd_t c] at hw
        by_cases e : h = iv x
        · rw [if_pos e] at hw
          have hw := Option.some.inj hw
          subst hw
          simp
        · rw [if_neg e] at hw
          exact absurd hw (by simp)
      | false =>
        rw [rd_f c] at hw
        cases e : rdx t iv w x with
        | none => rw [e] at hw; exact absurd hw (by simp)
        | some u =>
          rw [e] at hw
          have hw : h :: u = w' := Option.some.inj hw
          subst hw
          have := ih u e
          simp
          exact this
  intro w
  cases e : rdx t iv w x with
  | none => rw [ap_n e]; simp
  | some u =>
    rw [ap_s e]
    have := key w u e
    omega
/-- how far apart the plait and a dance are -/
def avN (g : GM) (c : Nat → Nat) (n : Nat) (fl : Int32) : Nat := (wdF g.n ((tlB allT (fun i => g.f i % 16) 0 g.m).map ivN) (dlF c fl) n).length
theorem av_le (g : GM) (c : Nat → Nat) (n : Nat) (fl : Int32) : avN g c n fl ≤ g.m + n := by
  have key : ∀ i, (wdF g.n ((tlB allT (fun i => g.f i % 16) 0 g.m).map ivN) (dlF c fl) i).length ≤ g.m + i := by
    intro i
    induction i with
    | zero =>
      show ((tlB allT (fun i => g.f i % 16) 0 g.m).map ivN).length ≤ g.m + 0
      rw [List.length_map, tl_len]
      exact Nat.le_refl _
    | succ i ih =>
      have := ap_len (t := tcN g.n) (iv := ivN) (x := dlF c fl i) (wdF g.n ((tlB allT (fun i => g.f i % 16) 0 g.m).map ivN) (dlF c fl) i)
      show (ap (tcN g.n) ivN (wdF g.n ((tlB allT (fun i => g.f i % 16) 0 g.m).map ivN) (dlF c fl) i) (dlF c fl i)).length ≤ g.m + (i + 1)
      omega
  exact key n
section SA
variable {l : Launch} {d : Nat} {S : aw_S} {g : GM}
/-- where the reference compares -/
def CmX (k j : Nat) : Prop := (k = 114 ∧ j = 33) ∨ (128 ≤ k ∧ k ≤ 131)
theorem sp_md_apart {X : Int32 → aw_S → Prop} {t n : Nat} {c : Nat → Nat} {fl : Int32} (hR : RefsOk S.2.2) (hb : bdG g) (hr : redN g.n g.f g.m) (H : MdG S.1 0 g) (ht : t < 4) (hn40 : n ≤ 40) (hc : ∀ i, i < n → c i < 2 * gpN g.n) (hV : ∀ i, i < n → S.2.1 119 (60 * t + i) = lN (c i)) (h : ∀ U, FrI CmX S U → X (nI (avN g c n fl)) U) : Sp l m_Md_laysDance (d + 1 + 1 + 1 + 1 + 1) 0 0 [.ref 114, .int (nI t), .int (nI n), .int fl] sh0 S (gV sh0 (fun S4 => Sp l m_Md_apartNow (d + 1 + 1 + 1 + 1 + 1) 0 0 [.ref 114] sh0 S4 (gI sh0 X))) := by
  have hn : g.n ≤ 7 := hb.1
  have hm : g.m ≤ 40 := hb.2.2.2.2.1
  refine sp_laysDance (d := d + 1 + 1) (c := c) (fl := fl) hR hb H ht hn40 hc hV (fun U m' f' F D e => ?_)
  have hRU : RefsOk U.2.2 := by rw [F.R]; exact hR
  have MU : MdG U.1 0 g := H.fr hn hm (fun j _ => F.1 115 _ (by unfold DaX; omega))
  have rd : RdL (tcN g.n) ivN (rlB allT f' m') := by rw [e]; exact wd_rd n
  refine e_Md_apartNow rfl ⟨115, hRU.at (by decide), 3864, rfl, vp_in_nI (n := 3) (by omega) (by omega), sp_alike hRU hb MU D rd (fun V cnt FV h1 h2 h3 => ?_)⟩
  have e3 : U.1 115 (3 : Int32).toNatClampNeg = nI g.m := MU.2.2.2.1
  have D2 := D.2.1
  rw [e3, D.1, nI_add, show (2 : Int32) = nI 2 from rfl, pk_mul, nI_sub (by omega)]
  have ev : avN g c n fl = g.m + m' - 2 * cnt := by
    have hh := (wd_hom (dl := dlF c fl) (red_rd hr g.m 0 (by omega)) n).len
    unfold avN
    rw [hh, ← e]
    have : vlN g.n (fun i => g.f i % 16) g.m f' m' allT allT = g.m - cnt + (m' - cnt) := h3
    unfold vlN at this
    rw [this]
    omega
  rw [← ev]
  exact h V (F.mono (fun a i q => by unfold DaX at q; unfold CmX; omega) |>.trans (FV.mono (fun a i q => by unfold CmX; omega)))
end SA
/-- what both say of a dance in a tray -/
theorem dance_cases {l : Launch} {S : aw_S} {a b : Nat} {g : GM} (hI : Inv S) (N : NowI S a b g) (x y : Int32) :
    (∃ e : Int32, ¬ e = 0 ∧ ¬ e ≤ 0 ∧ (∀ P : Int32 → aw_S → Prop, P e S → Sp l m_Mg_danceProblem 199 0 0 [.ref 0, .int x, .int y] sh0 S (gI sh0 P)) ∧ (∀ s (P : Int32 → aw_S → Prop), P e (aw_uI S 0 3 s) → Sp l m_Md_wrongDance 199 0 0 [.ref 114, .int x, .int y] sh0 (aw_uI S 0 3 s) (gI sh0 P))) ∨
    (∃ (t n : Nat) (c : Nat → Nat), t < 4 ∧ n ≤ 40 ∧ x = nI t ∧ y = nI n ∧ (∀ i, i < n → c i < 2 * gpN g.n) ∧ (∀ i, i < n → S.2.1 (3 + 2 * t) i = lN (c i)) ∧ (∀ i, i < n → S.2.1 119 (60 * t + i) = lN (c i)) ∧
      (∀ P : Int32 → aw_S → Prop, P 0 S → Sp l m_Mg_danceProblem 199 0 0 [.ref 0, .int x, .int y] sh0 S (gI sh0 P)) ∧ (∀ S' (P : Int32 → aw_S → Prop), RefsOk S'.2.2 → S'.2.1 119 = S.2.1 119 → S'.1 118 = S.1 118 → S'.1 115 0 = S.1 115 0 → P 0 S' → Sp l m_Md_wrongDance 199 0 0 [.ref 114, .int x, .int y] sh0 S' (gI sh0 P))) := by
  have hS := N.S hI.rf
  obtain ⟨n1, n2, n3, n4, n5, n6, n7, n8, n9, n10⟩ := id N
  have hn : g.n ≤ 7 := n4.1
  have hgp := gp_le g.n
  have htr := hI.2.2.2.2.2.2.2.1
  by_cases c1 : 0 ≤ x ∧ x ≤ 3
  · have c1' : (if 0 ≤ x ∧ x ≤ 3 then (1 : Int32) else 0) = 1 := if_pos c1
    by_cases c2 : 0 ≤ y ∧ y ≤ 40
    · have c2' : (if 0 ≤ y ∧ y ≤ 40 then (1 : Int32) else 0) = 1 := if_pos c2
      obtain ⟨t, ht, rfl⟩ := le_ge (n := 3) (by decide) c1
      obtain ⟨n, hn40, rfl⟩ := le_ge (n := 40) (by decide) c2
      obtain ⟨g1, g2⟩ := rf_tray hI.rf (show t < 4 by omega)
      obtain ⟨s1, s2⟩ := sh_tray t (by omega)
      have g1' : S.2.2 1 (nI t : Int32).toNatClampNeg = some (2 + 2 * t) := by rw [nI_clamp (by omega)]; exact g1
      have hlim : (2 : Int64) * (nI (gpN g.n)).toInt64 = lN (2 * gpN g.n) := by
        rw [nI_l (by omega), show (2 : Int64) = lN 2 from rfl, lN_mul]
      have vt : vp_in (nI t) 4 := vp_in_nI (by omega) (by omega)
      have start : ∀ {P : Int32 → aw_S → Prop}, ((¬ (S.1 (2 + 2 * t) 1) = 0 → ((nI n ≤ (S.1 (2 + 2 * t) 3) → Sp l m_Tr_areBelow 198 0 0 [.ref (2 + 2 * t), .int (nI 0), .int (nI n), .int (nI 1), .long (lN (2 * gpN g.n))] sh0 S (gI sh0 (fun x26 S25 => ((x26 = 0 → P 5 S25) ∧ (¬ x26 = 0 → P 0 S25))))) ∧ (¬ nI n ≤ (S.1 (2 + 2 * t) 3) → P 3 S))) ∧ ((S.1 (2 + 2 * t) 1) = 0 → P 2 S)) → Sp l m_Mg_danceProblem 199 0 0 [.ref 0, .int (nI t), .int (nI n)] sh0 S (gI sh0 P) := fun {P} h => by
        refine e_Mg_danceProblem rfl (sp_isTray (d := 196) ?_)
        rw [c1']
        refine ⟨fun q => absurd q (by decide), fun _ => sp_isWithin (d := 197) ?_⟩
        rw [c2']
        refine ⟨fun _ => ⟨1, hI.rf.at (by decide), 4, rfl, vt, 2 + 2 * t, g1', s1, fun q => ⟨vt, 2 + 2 * t, g1', s1, fun q2 => ⟨vt, 2 + 2 * t, g1', a, n1, hS.sa, sp_Gr_gaps (d := 197) hS.sa hn n6.1 ⟨s1, ?_⟩⟩, (h.1 q).2⟩, h.2⟩, fun q => absurd q (by decide)⟩
        rw [hlim]
        exact (h.1 q).1 q2
      have startM : ∀ {S' : aw_S} {P : Int32 → aw_S → Prop}, RefsOk S'.2.2 → ((¬ (S'.1 118 t) = (-1) → ((nI n ≤ (S'.1 118 t) → AW l m_Md_wrongDance 199 0 0 (gI sh0 P) 0 0 47 [.ref 114, .int (nI t), .int (nI n), .int 0] [] sh0 S') ∧ (¬ nI n ≤ (S'.1 118 t) → P 3 S'))) ∧ ((S'.1 118 t) = (-1) → P 2 S')) → Sp l m_Md_wrongDance 199 0 0 [.ref 114, .int (nI t), .int (nI n)] sh0 S' (gI sh0 P) := fun {S'} {P} rr h => by
        refine e_Md_wrongDance rfl (sp_mIsTray (d := 197) ?_)
        rw [c1']
        refine ⟨fun q => absurd q (by decide), fun _ => sp_isFrom (d := 197) (y := 0) (z := 40) (by decide) (by decide) (fun _ => ⟨fun _ => ⟨118, rr.at (by decide), 4, rfl, vt, ?_⟩, fun q => absurd q (by decide)⟩) (fun w => absurd c2 w)⟩
        rw [nI_clamp (by omega)]
        exact ⟨fun q => ⟨vt, h.1 q⟩, h.2⟩
      rcases htr t (by omega) with ⟨h1, h2⟩ | ⟨h1, m, kd, h2, h3, h4, h5, h6, h7, h8⟩
      · refine Or.inl ⟨2, by decide, by decide, fun P hP => start ⟨fun q => absurd h1 q, fun _ => hP⟩, fun s P hP => startM (by rw [uI_R]; exact hI.rf) ⟨fun q => absurd ?_ q, fun _ => hP⟩⟩
        rw [uI_ne _ _ _ (by omega)]; exact h2
      · have z1 : ¬ S.1 (2 + 2 * t) 1 = 0 := fun q => absurd (h1.symm.trans q) (by decide)
        have z2 : ¬ nI m = -1 := nI_ne_m1 (by omega)
        by_cases c4 : n ≤ m
        · have cv : ∀ j, j < n → S.2.1 (3 + 2 * t) j = S.2.1 119 (60 * t + j) := fun j hj => h8 j (by omega)
          have loop : ∀ (S' : aw_S) (P : Int32 → aw_S → Prop), RefsOk S'.2.2 → S'.2.1 119 = S.2.1 119 → S'.1 115 0 = S.1 115 0 → ((∀ i, i < n → ¬ S.2.1 119 (60 * t + i) < 0 ∧ S.2.1 119 (60 * t + i) < lN (2 * gpN g.n)) → P 0 S') → (¬ (∀ i, i < n → ¬ S.2.1 119 (60 * t + i) < 0 ∧ S.2.1 119 (60 * t + i) < lN (2 * gpN g.n)) → P 5 S') → AW l m_Md_wrongDance 199 0 0 (gI sh0 P) 0 0 47 [.ref 114, .int (nI t), .int (nI n), .int 0] [] sh0 S' := by
            intro S' P rr eL e0 k0 k5
            have key : ∀ j i, i + j = n → (∀ y, y < i → ¬ S.2.1 119 (60 * t + y) < 0 ∧ S.2.1 119 (60 * t + y) < lN (2 * gpN g.n)) → AW l m_Md_wrongDance 199 0 0 (gI sh0 P) 0 0 47 [.ref 114, .int (nI t), .int (nI n), .int (nI i)] [] sh0 S' := by
              intro j
              induction j with
              | zero =>
                intro i hi hy
                have hi : i = n := hi
                subst hi
                exact s_Md_wrongDance_47 rfl ⟨fun _ => k0 hy, fun q => absurd (nI_le (Nat.le_refl _) (by omega)) q⟩
              | succ j ih =>
                intro i hi hy
                refine s_Md_wrongDance_47 rfl ⟨fun q => absurd q (nI_ge (by omega) (by omega)), fun _ => ⟨119, rr.at (by decide), 240, rfl, ?_, ?_⟩⟩
                · rw [n60]; exact vp_in_nI (by omega) (by omega)
                · rw [n60, nI_clamp (by omega), eL]
                  refine sp_Md_gapsOf (s := 0) (d := 197) (MdS.mk0 rr) (by omega) hn (e0.trans n7.1) ?_
                  rw [hlim, nI_1]
                  refine sp_isFromL (d := 197) (fun w1 w2 => ⟨fun _ => ih (i + 1) (by omega) (fun y hy2 => ?_), fun q => absurd q (by decide)⟩) (fun w => ⟨fun q => absurd rfl q, fun _ => k5 (fun v => w ((l_from (by omega)).mpr (v i (by omega))))⟩)
                  by_cases e : y = i
                  · rw [e]; exact (l_from (by omega)).mp ⟨w1, w2⟩
                  · exact hy y (by omega)
            exact key n 0 (by omega) (fun y hy => absurd hy (Nat.not_lt_zero y))
          have below : ∀ (P : Int32 → aw_S → Prop), ((∀ i, i < n → ¬ S.2.1 119 (60 * t + i) < 0 ∧ S.2.1 119 (60 * t + i) < lN (2 * gpN g.n)) → P 0 S) → (¬ (∀ i, i < n → ¬ S.2.1 119 (60 * t + i) < 0 ∧ S.2.1 119 (60 * t + i) < lN (2 * gpN g.n)) → P 5 S) → Sp l m_Mg_danceProblem 199 0 0 [.ref 0, .int (nI t), .int (nI n)] sh0 S (gI sh0 P) := by
            intro P k0 k5
            have ea : ∀ i, i < n → S.2.1 (3 + 2 * t) (0 + i * 1) = S.2.1 119 (60 * t + i) := fun i hi => by
              rw [cv _ (by omega), show 60 * t + (0 + i * 1) = 60 * t + i by omega]
            refine start ⟨fun _ => ⟨fun _ => ?_, fun q => absurd (by rw [h4]; exact nI_le c4 (by omega)) q⟩, fun q => absurd q z1⟩
            refine sp_areBelow (d := 197) (fr := 0) (st := 1) (N := n) hI.rf (by omega) (fun i => by omega) (by omega) (by omega) (by omega) (fun w => ⟨fun q => absurd q (by decide), fun _ => k0 (fun i hi => ?_)⟩) (fun w => ⟨fun _ => k5 (fun v => w (fun i hi => ?_)), fun q => absurd rfl q⟩)
            · rw [← ea i hi]; exact w i hi
            · rw [ea i hi]; exact v i hi
          by_cases c5 : ∀ i, i < n → ¬ S.2.1 119 (60 * t + i) < 0 ∧ S.2.1 119 (60 * t + i) < lN (2 * gpN g.n)
          · have val : ∀ i, i < n → (S.2.1 119 (60 * t + i)).toInt.toNat < 2 * gpN g.n ∧ S.2.1 119 (60 * t + i) = lN (S.2.1 119 (60 * t + i)).toInt.toNat := fun i hi => by
              obtain ⟨w1, w2⟩ := c5 i hi
              obtain ⟨u, u1, u2⟩ := lN_of (by omega) w1 w2
              have eu : (lN u).toInt.toNat = u := by rw [lN_toInt (by omega)]; omega
              rw [u2, eu]
              exact ⟨u1, rfl⟩
            refine Or.inr ⟨t, n, fun i => (S.2.1 119 (60 * t + i)).toInt.toNat, by omega, hn40, rfl, rfl, fun i hi => (val i hi).1, fun i hi => ?_, fun i hi => (val i hi).2, fun P hP => below P (fun _ => hP) (fun w => absurd c5 w), fun S' P rr eL e8 e0 hP => startM rr ?_⟩
            · rw [cv _ (by omega)]; exact (val i hi).2
            · rw [e8, h5]
              exact ⟨fun _ => ⟨fun _ => loop S' P rr eL e0 (fun _ => hP) (fun w => absurd c5 w), fun q => absurd (nI_le c4 (by omega)) q⟩, fun q => absurd q z2⟩
          · refine Or.inl ⟨5, by decide, by decide, fun P hP => below P (fun w => absurd w c5) (fun _ => hP), fun s P hP => startM (by rw [uI_R]; exact hI.rf) ?_⟩
            rw [uI_ne _ _ _ (by omega), h5]
            exact ⟨fun _ => ⟨fun _ => loop _ P (by rw [uI_R]; exact hI.rf) (by rw [uI_L]) (by rw [uI_ne _ _ _ (by omega)]) (fun w => absurd w c5) (fun _ => hP), fun q => absurd (nI_le c4 (by omega)) q⟩, fun q => absurd q z2⟩
        · refine Or.inl ⟨3, by decide, by decide, fun P hP => start ⟨fun _ => ⟨fun q => absurd ?_ c4, fun _ => hP⟩, fun q => absurd q z1⟩, fun s P hP => startM (by rw [uI_R]; exact hI.rf) ?_⟩
          · rw [h4] at q
            exact (nI_leI (by omega) (by omega)).mp q
          · rw [uI_ne _ _ _ (by omega), h5]
            exact ⟨fun _ => ⟨fun q => absurd ((nI_leI (by omega) (by omega)).mp q) c4, fun _ => hP⟩, fun q => absurd q z2⟩
    · refine Or.inl ⟨1, by decide, by decide, fun P hP => e_Mg_danceProblem rfl (sp_isTray (d := 196) ?_), fun s P hP => e_Md_wrongDance rfl (sp_mIsTray (d := 197) ?_)⟩
      · rw [c1']
        refine ⟨fun q => absurd q (by decide), fun _ => sp_isWithin (d := 197) ?_⟩
        rw [if_neg c2]
        exact ⟨fun q => absurd rfl q, fun _ => hP⟩
      · rw [c1']
        exact ⟨fun q => absurd q (by decide), fun _ => sp_isFrom (d := 197) (y := 0) (z := 40) (by decide) (by decide) (fun w => absurd w c2) (fun _ => ⟨fun q => absurd rfl q, fun _ => hP⟩)⟩
  · refine Or.inl ⟨1, by decide, by decide, fun P hP => e_Mg_danceProblem rfl (sp_isTray (d := 196) ?_), fun s P hP => e_Md_wrongDance rfl (sp_mIsTray (d := 197) ?_)⟩
    · rw [if_neg c1]
      exact ⟨fun _ => hP, fun q => absurd rfl q⟩
    · rw [if_neg c1]
      exact ⟨fun _ => hP, fun q => absurd rfl q⟩
