/-! a green as a text: the reference's part -/
def tpN (od ld pd : Bool) : Nat := (if od = true then 1 else 0) + (if ld = true then 2 else 0) + (if pd = true then 8 else 0)
theorem tp_in : ∀ od ld pd : Bool, (((nI (tpN od ld pd) >>> ((0 : Int32) &&& 31)) &&& (1 : Int32)) = 1 ↔ od = true) ∧ (((nI (tpN od ld pd) >>> ((1 : Int32) &&& 31)) &&& (1 : Int32)) = 1 ↔ ld = true) ∧ (((nI (tpN od ld pd) >>> ((3 : Int32) &&& 31)) &&& (1 : Int32)) = 1 ↔ pd = true) := by decide
theorem tp_or : ∀ od ld pd : Bool, (nI (tpN od ld pd) ||| ((1 : Int32) <<< ((0 : Int32) &&& 31))) = nI (tpN true ld pd) ∧ (nI (tpN od ld pd) ||| ((1 : Int32) <<< ((1 : Int32) &&& 31))) = nI (tpN od true pd) ∧ (nI (tpN od ld pd) ||| ((1 : Int32) <<< ((3 : Int32) &&& 31))) = nI (tpN od ld true) := by decide
def GmX (k j : Nat) : Prop := FX k j ∨ (k = 114 ∧ j = 20) ∨ (k = 115 ∧ 2208 ≤ j ∧ j < 2760)
def GmF (S0 T : aw_S) : Prop := (∀ k j, ¬ GmX k j → T.1 k j = S0.1 k j) ∧ (∀ k j, ¬ (k = 116 ∧ 28 ≤ j) → T.2.1 k j = S0.2.1 k j) ∧ T.2.2 = S0.2.2
def GmR (S0 T : aw_S) (B : Nat → Nat) (L : Nat) (s : GpS) : Prop := GmF S0 T ∧ TmG T B L s.t ∧ MdG T.1 2208 s.g ∧ (∀ d, d < s.g.n → T.2.1 116 (28 + d) = lN (p8 (s.nm d))) ∧ T.1 114 20 = nI (tpN s.od s.ld s.pd) ∧ (T.1 115 2212 = 0 ∧ T.1 115 2213 = -1)
def OutM (S0 : aw_S) (B : Nat → Nat) (L : Nat) (x : Int32) (T' : aw_S) (r : RsT GpS) : Prop := match r with
  | .inl f => x = 0 ∧ GmF S0 T' ∧ FtM T' f
  | .inr s' => x = 1 ∧ GmR S0 T' B L s'
theorem GmF.u {S0 T T' : aw_S} (h : GmF S0 T) (F : FrI FX T T') : GmF S0 T' := ⟨fun k j q => (F.1 k j (fun z => q (Or.inl z))).trans (h.1 k j q), fun k j q => by rw [F.L]; exact h.2.1 k j q, F.R.trans h.2.2⟩
theorem GmF.uI {S0 T : aw_S} (h : GmF S0 T) {k j : Nat} (v : Int32) (hk : GmX k j) : GmF S0 (aw_uI T k j v) := by
  refine ⟨fun c i q => ?_, h.2.1, h.2.2⟩
  rw [uI_at]
  by_cases z : c = k
  · rw [if_pos z]
    by_cases y : i = j
    · exact absurd (by rw [z, y]; exact hk) q
    · rw [if_neg y, ← z]
      exact h.1 c i q
  · rw [if_neg z]
    exact h.1 c i q
section GPM
variable {l : Launch} {d L : Nat} {B : Nat → Nat} {S0 T : aw_S} {s : GpS}
theorem GmR.tok {T' : aw_S} {t' : TK} (h : GmR S0 T B L s) (hb : bdG s.g) (F : FrI FX T T') (G : TmG T' B L t') : GmR S0 T' B L (t', s.g, s.nm, s.od, s.ld, s.pd) := by
  obtain ⟨h1, h2, h3, h4, h5, h6⟩ := h
  have c : ∀ j, T'.1 115 j = T.1 115 j := fun j => F.1 115 j (by unfold FX; omega)
  refine ⟨h1.u F, G, h3.fr hb.1 hb.2.2.2.2.1 (fun j _ => c _), fun d hd => ?_, ?_, ?_⟩
  · rw [F.L]; exact h4 d hd
  · rw [F.1 114 20 (by unfold FX; omega)]; exact h5
  · rw [c, c]; exact h6
theorem GmR.tp {v : Int32} {s' : GpS} (h : GmR S0 T B L s) (hb : bdG s.g) (e1 : s'.t = s.t) (e2 : s'.g = s.g) (e3 : s'.nm = s.nm) (hv : v = nI (tpN s'.od s'.ld s'.pd)) : GmR S0 (aw_uI T 114 20 v) B L s' := by
  obtain ⟨h1, h2, h3, h4, h5, h6⟩ := h
  have c : (aw_uI T 114 20 v).1 115 = T.1 115 := uI_ne _ _ _ (by decide)
  refine ⟨h1.uI _ (Or.inr (Or.inl ⟨rfl, rfl⟩)), ?_, ?_, ?_, ?_, ?_⟩
  · rw [e1]
    exact h2.fr (fun j hj => by rw [uI_at, if_pos rfl, if_neg (by omega)]) (uI_ne _ _ _ (by decide)) rfl
  · rw [e2]
    exact h3.fr hb.1 hb.2.2.2.2.1 (fun j _ => by rw [c])
  · rw [e2, e3]; exact h4
  · rw [uI_at, if_pos rfl, if_pos rfl]; exact hv
  · rw [c]; exact h6
theorem sp_isInM {P : Int32 → aw_S → Prop} {S : aw_S} {p0 p1 : Int32} {b : Bool} (e : ((p0 >>> (p1 &&& 31)) &&& (1 : Int32)) = 1 ↔ b = true) (k1 : b = true → P 1 S) (k0 : b = false → P 0 S) : Sp l m_Md_isIn (d + 1) 0 0 [.ref 114, .int p0, .int p1] sh0 S (gI sh0 P) := by
  refine e_Md_isIn rfl ⟨fun z => k0 ?_, fun z => k1 (e.mp z)⟩
  cases q : b with
  | false => rfl
  | true => exact absurd (e.mpr q) z
theorem sp_aDancer {P : Int32 → aw_S → Prop} (hR : RefsOk S0.2.2) (hB : GpB s) (h : GmR S0 T B L s) (kf : ∀ f T', gpDancer B L s = .inl f → GmF S0 T' → FtM T' f → P 0 T') (ks : ∀ T' t4 g' nm', (gpDancer B L s = seK B L t4 fun t' => .inr (t', g', nm', s.od, s.ld, s.pd)) → bdG g' → GmR S0 T' B L (t4, g', nm', s.od, s.ld, s.pd) → P 1 T') : Sp l m_Md_aDancer (d + 8) 0 0 [.ref 114] sh0 T (gI sh0 P) := by
  obtain ⟨h1, h2, h3, h4, h5, h6⟩ := id h
  obtain ⟨b1, b2, b3, b4⟩ := id hB
  have hn : s.g.n ≤ 7 := b1.1
  have rT : ∀ {U : aw_S}, U.2.2 = S0.2.2 → RefsOk U.2.2 := fun e => by rw [e]; exact hR
  have e0 : T.1 115 (2208 : Int32).toNatClampNeg = nI s.g.n := h3.1
  unfold gpDancer at kf ks
  refine e_Md_aDancer rfl ⟨115, (rT h1.2.2).at (by decide), 3864, rfl, vp_in_nI (n := 2208) (by omega) (by omega), ?_⟩
  rw [h5, e0]
  refine sp_isInM (tp_in s.od s.ld s.pd).2.2 (fun qp => ⟨fun y => absurd y (by decide), fun _ => sp_failsM (k0 := 5) h2 (fun S' F T => ⟨Or.inl rfl, kf _ S' ?_ (h1.u F) T⟩)⟩) (fun qp => ⟨fun _ => ?_, fun y => absurd rfl y⟩)
  · rw [if_pos qp]
  · rw [if_neg (by rw [qp]; decide)] at kf ks
    refine ⟨fun z => ?_, fun z => sp_failsM (k0 := 6) h2 (fun S' F T => ⟨Or.inl rfl, kf _ S' ?_ (h1.u F) T⟩)⟩
    · have n7 : ¬ s.g.n = 7 := fun y => z (by rw [y]; rfl)
      rw [if_neg n7] at kf ks
      refine sp_aheadM h2 (fun T1 F1 G1 => ?_)
      have g1 := h.tok b1 (AXF F1) G1
      refine sp_isNameM G1 (fun q => ⟨fun _ => ?_, fun y => absurd y (by decide)⟩) (fun q => ⟨fun y => absurd rfl y, fun _ => sp_failsM (k0 := 2) G1 (fun S' F T => ⟨Or.inl rfl, kf _ S' ?_ (g1.1.u F) T⟩)⟩)
      · have q' : (tkF B L s.t.e).k = 1 ∧ (tkF B L s.t.e).e - (tkF B L s.t.e).b ≤ 8 ∧ rwT B (tkF B L s.t.e) = none := q
        rw [if_pos q'] at kf ks
        have e1 : T1.2.2 = S0.2.2 := g1.1.2.2
        refine sp_findHere (base := 28) ((rT e1).at (by decide)) (by omega) hn (fun d hd => ⟨g1.2.2.2.1 d hd, b4 d hd⟩) G1 q ⟨fun y => ?_, fun y => sp_failsM (k0 := 3) G1 (fun S' F T => ⟨Or.inl rfl, kf _ S' ?_ (g1.1.u F) T⟩)⟩
        · rw [if_pos ((nm_none hn).mp y)] at kf ks
          refine ⟨116, (rT e1).at (by decide), sp_nameHere G1 ⟨q.1, q.2.1⟩ ⟨42, rfl, ?_⟩⟩
          rw [show (28 : Int32) = nI 28 from rfl, nI_add, nI_clamp (by omega)]
          refine ⟨vp_in_nI (by omega) (by omega), ?_⟩
          have G2 : TmG (aw_uL T1 116 (28 + s.g.n) (lN (p8 (wdT B (tkF B L s.t.e))))) B L (tkF B L s.t.e) := G1.fr (fun _ _ => rfl) rfl rfl
          have fA : GmF S0 (aw_uL T1 116 (28 + s.g.n) (lN (p8 (wdT B (tkF B L s.t.e))))) := by
            refine ⟨g1.1.1, fun k j q => ?_, g1.1.2.2⟩
            rw [uL_at]
            by_cases z : k = 116
            · rw [if_pos z, if_neg (by omega), ← z]; exact g1.1.2.1 k j q
            · rw [if_neg z]; exact g1.1.2.1 k j q
          refine sp_aheadM G2 (fun T2 F2 G3 => ?_)
          refine sp_wantWord (w0 := 3) (α := GpS) (by omega) rfl G3 (fun f hf T3 F3 M3 => ⟨fun _ => kf f T3 (hf _) ?_ M3, fun y => absurd rfl y⟩) (fun hf T3 F3 G4 => ⟨fun y => absurd y (by decide), fun _ => ?_⟩)
          · exact (fA.u (AXF F2)).u F3
          · rw [hf] at kf ks
            have F23 : FrI FX (aw_uL T1 116 (28 + s.g.n) (lN (p8 (wdT B (tkF B L s.t.e))))) T3 := (AXF F2).trans F3
            have f3 : GmF S0 T3 := fA.u F23
            have c115 : ∀ j, T3.1 115 j = T1.1 115 j := fun j => F23.1 115 j (by unfold FX; omega)
            rw [show (2218 : Int32) = nI 2218 from rfl, nI_add]
            refine sp_numberM (lo := 0) (hi := 6) (α := GpS) (by decide) (by omega) (by omega) (by omega) ((rT f3.2.2).at (by decide)) G4 (fun f hf T4 F4 M4 => ⟨fun y => absurd rfl y, fun _ => kf f T4 (hf _) (f3.u F4) M4⟩) (fun v _ v2 hf T4 F4 G5 => ⟨fun _ => ?_, fun y => absurd y (by decide)⟩)
            have f4 : GmF S0 T4 := (f3.uI _ (Or.inr (Or.inr ⟨rfl, by omega, by omega⟩))).u F4
            refine ⟨115, (rT f4.2.2).at (by decide), 3864, rfl, ?_⟩
            rw [show (2225 : Int32) = nI 2225 from rfl, nI_add, nI_clamp (by omega), show (2208 : Int32).toNatClampNeg = 2208 from rfl]
            refine ⟨vp_in_nI (by omega) (by omega), vp_in_nI (n := 2208) (by omega) (by omega), vp_in_nI (n := 2208) (by omega) (by omega), ?_⟩
            have c4 : ∀ j, T4.1 115 j = if j = 2218 + s.g.n then nI v else T1.1 115 j := fun j => by
              rw [F4.1 115 j (by unfold FX; omega), uI_at, if_pos rfl]
              by_cases z : j = 2218 + s.g.n
              · rw [if_pos z, if_pos z]
              · rw [if_neg z, if_neg z]; exact c115 j
            have v0 : (aw_uI T4 115 (2225 + s.g.n) (nI s.g.n)).1 115 2208 + 1 = nI (s.g.n + 1) := by
              rw [uI_at, if_pos rfl, if_neg (by omega), c4, if_neg (by omega)]
              have : T1.1 115 2208 = nI s.g.n := g1.2.2.1.1
              rw [this, nI_1]
            rw [v0]
            have m0 : s.g.m = 0 := b3 qp
            refine ks _ (tkF B L (tkF B L (tkF B L (tkF B L s.t.e).e).e).e) (jnG s.g v) (upW s.nm s.g.n (wdT B (tkF B L s.t.e))) (hf _) (bdG.jn b1 (by omega) (by omega) m0) ?_
            have o : ∀ j, (aw_uI (aw_uI T4 115 (2225 + s.g.n) (nI s.g.n)) 115 2208 (nI (s.g.n + 1))).1 115 j = if j = 2208 then nI (s.g.n + 1) else if j = 2225 + s.g.n then nI s.g.n else if j = 2218 + s.g.n then nI v else T1.1 115 j := fun j => by
              rw [uI_at, if_pos rfl]
              by_cases z : j = 2208
              · rw [if_pos z, if_pos z]
              · rw [if_neg z, if_neg z, uI_at, if_pos rfl]
                by_cases y : j = 2225 + s.g.n
                · rw [if_pos y, if_pos y]
                · rw [if_neg y, if_neg y, c4]
            obtain ⟨y0, y1, y2, y3, y4, y5, y6⟩ := g1.2.2.1
            refine ⟨(f4.uI _ (Or.inr (Or.inr ⟨rfl, by omega, by omega⟩))).uI _ (Or.inr (Or.inr ⟨rfl, by omega, by omega⟩)), G5.fr (fun j _ => by rw [uI_ne _ _ _ (by decide), uI_ne _ _ _ (by decide)]) (by rw [uI_ne _ _ _ (by decide), uI_ne _ _ _ (by decide)]) rfl, ⟨?_, ?_, ?_, ?_, fun k hk => ?_, fun e he => ?_, fun p hp => ?_⟩, fun d hd => ?_, ?_, ?_⟩
            · rw [o, if_pos rfl]; rfl
            · rw [o, if_neg (by omega), if_neg (by omega), if_neg (by omega)]; exact y1
            · rw [o, if_neg (by omega), if_neg (by omega), if_neg (by omega)]; exact y2
            · rw [o, if_neg (by omega), if_neg (by omega), if_neg (by omega)]; exact y3
            · have hk : k < s.g.m := hk
              omega
            · have he : e < s.g.n + 1 := he
              rw [o, if_neg (by omega), if_neg (by omega)]
              show _ = nI (upN s.g.col s.g.n v e)
              unfold upN
              by_cases z : e = s.g.n
              · rw [if_pos (by omega), if_pos z]
              · rw [if_neg (by omega), if_neg z]; exact y5 e (show e < s.g.n by omega)
            · have hp : p < s.g.n + 1 := hp
              rw [o, if_neg (by omega)]
              show _ = nI (upN s.g.std s.g.n s.g.n p)
              unfold upN
              by_cases z : p = s.g.n
              · rw [if_pos (by omega), if_pos z]
              · rw [if_neg (by omega), if_neg (by omega), if_neg z]; exact y6 p (show p < s.g.n by omega)
            · have hd : d < s.g.n + 1 := hd
              show T4.2.1 116 (28 + d) = lN (p8 (upW s.nm s.g.n (wdT B (tkF B L s.t.e)) d))
              rw [F4.L]
              show T3.2.1 116 (28 + d) = _
              rw [F23.L, uL_at, if_pos rfl]
              unfold upW
              by_cases z : d = s.g.n
              · rw [if_pos (by omega), if_pos z]
              · rw [if_neg (by omega), if_neg z]; exact g1.2.2.2.1 d (show d < s.g.n by omega)
            · rw [uI_ne _ _ _ (by decide), uI_ne _ _ _ (by decide), F4.1 114 20 (by unfold FX; omega), uI_ne _ _ _ (by decide), F23.1 114 20 (by unfold FX; omega)]
              exact g1.2.2.2.2.1
            · rw [o, if_neg (by omega), if_neg (by omega), if_neg (by omega), o, if_neg (by omega), if_neg (by omega), if_neg (by omega)]
              exact g1.2.2.2.2.2
        · rw [if_neg (fun z => y ((nm_none hn).mpr z))]
      · have q' : ¬ ((tkF B L s.t.e).k = 1 ∧ (tkF B L s.t.e).e - (tkF B L s.t.e).b ≤ 8 ∧ rwT B (tkF B L s.t.e) = none) := q
        rw [if_neg q']
    · rw [if_pos ((nI_inj (b := 7) (by omega) (by omega)).mp z)]
theorem sp_aPass {P : Int32 → aw_S → Prop} (hR : RefsOk S0.2.2) (hB : GpB s) (h : GmR S0 T B L (s.t, s.g, s.nm, s.od, s.ld, true)) (kf : ∀ f T', gpPass B L s = .inl f → GmF S0 T' → FtM T' f → P 0 T') (ks : ∀ T' t3 g', (gpPass B L s = seK B L t3 fun t' => .inr (t', g', s.nm, s.od, s.ld, true)) → bdG g' → GmR S0 T' B L (t3, g', s.nm, s.od, s.ld, true) → P 1 T') : Sp l m_Md_aPass (d + 8) 0 0 [.ref 114] sh0 T (gI sh0 P) := by
  obtain ⟨h1, h2, h3, h4, h5, h6⟩ := id h
  obtain ⟨b1, b2, b3, b4⟩ := id hB
  have hn : s.g.n ≤ 7 := b1.1
  have hgp := gp_le s.g.n
  have rT : ∀ {U : aw_S}, U.2.2 = S0.2.2 → RefsOk U.2.2 := fun e => by rw [e]; exact hR
  unfold gpPass at kf ks
  refine e_Md_aPass rfl (sp_aheadM h2 (fun T1 F1 G1 => ?_))
  have g1 := h.tok b1 (AXF F1) G1
  refine sp_gapTo (s0 := 2208) (to := 2752) (α := GpS) (n := s.g.n) (MdS.mk0 (rT g1.1.2.2)) (by omega) hn g1.2.2.1.1 (by omega) G1 (fun f hf T2 F2 M2 => ⟨fun _ => kf f T2 (hf _) (g1.1.u F2) M2, fun y => absurd rfl y⟩) (fun gap v2 hf T2 F2 G2 => ⟨fun y => absurd y (by decide), fun _ => ?_⟩)
  rw [hf] at kf ks
  have f2 : GmF S0 T2 := (g1.1.uI _ (Or.inr (Or.inr ⟨rfl, by omega, by omega⟩))).u F2
  have c2 : ∀ j, T2.1 115 j = if j = 2752 then nI gap else T1.1 115 j := fun j => by rw [F2.1 115 j (by unfold FX; omega), uI_at, if_pos rfl]
  have mk : ∀ over (v : Int32), over < 2 → v = nI over → (∀ f T', (if (psG s.g gap over).1 = 0 then .inl (blF 5 (tkF B L (tkF B L s.t.e).e)) else seK B L (tkF B L (tkF B L (tkF B L s.t.e).e).e) fun t3 => .inr (t3, (psG s.g gap over).2, s.nm, s.od, s.ld, true) : RsT GpS) = .inl f → GmF S0 T' → FtM T' f → P 0 T') → (∀ T' t3 g', ((if (psG s.g gap over).1 = 0 then .inl (blF 5 (tkF B L (tkF B L s.t.e).e)) else seK B L (tkF B L (tkF B L (tkF B L s.t.e).e).e) fun t3 => .inr (t3, (psG s.g gap over).2, s.nm, s.od, s.ld, true) : RsT GpS) = seK B L t3 fun t' => .inr (t', g', s.nm, s.od, s.ld, true)) → bdG g' → GmR S0 T' B L (t3, g', s.nm, s.od, s.ld, true) → P 1 T') → ∃ r8, (aw_uI T2 115 2753 v).2.2 114 0 = some r8 ∧ ∃ n10, sh0[r8]? = some (3, n10) ∧ vp_in 2752 n10 ∧ vp_in ((2752 : Int32) + (1 : Int32)) n10 ∧ Sp l m_Md_dances (d + 7) 0 0 [.ref 114, .int 2208, .int ((aw_uI T2 115 2753 v).1 r8 (2752 : Int32).toNatClampNeg), .int ((aw_uI T2 115 2753 v).1 r8 ((2752 : Int32) + (1 : Int32) : Int32).toNatClampNeg)] sh0 (aw_uI T2 115 2753 v) (gI sh0 (fun x14 S13 => ((¬ x14 = 0 → Sp l m_Md_ahead (d + 7) 0 0 [.ref 114] sh0 S13 (gV sh0 (fun S16 => P 1 S16))) ∧ (x14 = 0 → Sp l m_Md_fails (d + 7) 0 0 [.ref 114, .int 5] sh0 S13 (gI sh0 (fun x18 S17 => ((x18 = 0 ∨ x18 = 1) ∧ P x18 S17))))))) := by
    intro over v ho hv kf ks
    have f3 : GmF S0 (aw_uI T2 115 2753 v) := f2.uI _ (Or.inr (Or.inr ⟨rfl, by omega, by omega⟩))
    have c3 : ∀ j, (aw_uI T2 115 2753 v).1 115 j = if j = 2753 then v else if j = 2752 then nI gap else T1.1 115 j := fun j => by rw [uI_at, if_pos rfl, c2]
    refine ⟨115, (rT f3.2.2).at (by decide), 3864, rfl, vp_in_nI (n := 2752) (by omega) (by omega), vp_in_nI (n := 2753) (by omega) (by omega), ?_⟩
    rw [show (2752 : Int32).toNatClampNeg = 2752 from rfl, show ((2752 : Int32) + (1 : Int32)).toNatClampNeg = 2753 from rfl, c3, if_neg (by decide), if_pos rfl, c3, if_pos rfl, hv]
    have M3 : MdG (aw_uI T2 115 2753 v).1 2208 s.g := g1.2.2.1.fr hn b1.2.2.2.2.1 (fun j hj => by rw [c3, if_neg (by omega), if_neg (by omega)])
    rw [hv] at M3 f3 c3
    have G3 : TmG (aw_uI T2 115 2753 (nI over)) B L (tkF B L (tkF B L s.t.e).e) := G2.fr (fun j _ => by rw [uI_ne _ _ _ (by decide)]) (uI_ne _ _ _ (by decide)) rfl
    obtain ⟨p1, p2, p3, p4, -⟩ := ps_ok b1 b2 v2 ho
    have go : ∀ (x : Int32) T4, FrI (MX 2208) (aw_uI T2 115 2753 (nI over)) T4 → MdG T4.1 2208 (psG s.g gap over).2 → ¬ (psG s.g gap over).1 = 0 → Sp l m_Md_ahead (d + 7) 0 0 [.ref 114] sh0 T4 (gV sh0 (fun S16 => P 1 S16)) := by
      intro x T4 F4 M4 hne
      rw [if_neg hne] at ks
      have G4 : TmG T4 B L (tkF B L (tkF B L s.t.e).e) := G3.fr (fun j _ => F4.1 114 j (by unfold MX; omega)) (F4.cell (fun j => by unfold MX; omega)) F4.R
      have f4 : GmF S0 T4 := ⟨fun k j q => (F4.1 k j (by unfold MX; unfold GmX at q; omega)).trans (f3.1 k j q), fun k j q => by rw [F4.L]; exact f3.2.1 k j q, F4.R.trans f3.2.2⟩
      refine sp_aheadM G4 (fun T5 F5 G5 => ks T5 _ _ rfl p1 ?_)
      have r4 : GmR S0 T4 B L (tkF B L (tkF B L s.t.e).e, (psG s.g gap over).2, s.nm, s.od, s.ld, true) := by
        refine ⟨f4, G4, M4, fun d hd => ?_, ?_, ?_⟩
        · rw [F4.L]
          show T2.2.1 116 (28 + d) = _
          rw [F2.L]
          exact g1.2.2.2.1 d (by rw [← p3]; exact hd)
        · rw [F4.1 114 20 (by unfold MX; omega), uI_ne _ _ _ (by decide), F2.1 114 20 (by unfold FX; omega), uI_ne _ _ _ (by decide)]
          exact g1.2.2.2.2.1
        · rw [F4.1 115 2212 (by unfold MX; omega), F4.1 115 2213 (by unfold MX; omega), c3, if_neg (by decide), if_neg (by decide), c3, if_neg (by decide), if_neg (by decide)]
          exact g1.2.2.2.2.2
      exact r4.tok p1 (AXF F5) G5
    refine sp_Md_dances (s := 2208) (MdS.mk0 (rT f3.2.2)) (by omega) b1 M3 v2 ho (fun k T4 hu hk F4 M4 => ⟨fun _ => go 2 T4 F4 (by rw [ps_2 hu]; exact M4) (by rw [ps_2 hu]; exact (by decide : ¬ (2 : Nat) = 0)), fun y => absurd y (by decide)⟩) (fun T4 hu c F4 M4 => ⟨fun _ => go 1 T4 F4 (by rw [ps_1 hu c]; exact M4) (by rw [ps_1 hu c]; exact (by decide : ¬ (1 : Nat) = 0)), fun y => absurd y (by decide)⟩) (fun hu c => ⟨fun y => absurd rfl y, fun _ => sp_failsM (k0 := 5) G3 (fun S' F T => ⟨Or.inl rfl, kf _ S' ?_ (f3.u F) T⟩)⟩)
    rw [if_pos (by rw [ps_0 hu c])]
  rw [show ((2752 : Int32) + (1 : Int32)) = nI 2753 from rfl]
  refine sp_howTo ((rT f2.2.2).at (by decide)) (by omega) G2 (fun q => ⟨fun _ => ?_, fun y => absurd y (by decide)⟩) (fun q1 q2 => ⟨fun _ => ?_, fun y => absurd y (by decide)⟩) (fun q1 q2 S' F M => ⟨fun y => absurd rfl y, fun _ => kf _ S' ?_ (f2.u F) M⟩)
  · rw [if_pos q] at kf ks
    exact mk 1 1 (by omega) rfl kf ks
  · rw [if_neg q1, if_pos q2] at kf ks
    exact mk 0 0 (by omega) rfl kf ks
  · rw [if_neg q1, if_neg q2]
theorem sp_greenPart {P : Int32 → aw_S → Prop} (hR : RefsOk S0.2.2) (hB : GpB s) (h : GmR S0 T B L s) (k : ∀ x T', (x = 0 ∨ x = 1) → OutM S0 B L x T' (gpart B L s) → P x T') : Sp l m_Md_greenPart (d + 9) 0 0 [.ref 114] sh0 T (gI sh0 P) := by
  obtain ⟨h1, h2, h3, h4, h5, h6⟩ := id h
  obtain ⟨b1, b2, b3, b4⟩ := id hB
  obtain ⟨x, c, w, -⟩ := id h2
  have rT : ∀ {U : aw_S}, U.2.2 = S0.2.2 → RefsOk U.2.2 := fun e => by rw [e]; exact hR
  have bad : (∀ i, rwT B s.t = some i → i ≠ 0 ∧ i ≠ 1 ∧ i ≠ 2 ∧ i ≠ 4) → gpart B L s = .inl (blF 2 s.t) := by
    intro hi
    unfold gpart
    split
    · rename_i e; exact absurd rfl (hi 0 e).1
    · rename_i e; exact absurd rfl (hi 1 e).2.1
    · rename_i e; exact absurd rfl (hi 2 e).2.2.1
    · rename_i e; exact absurd rfl (hi 4 e).2.2.2
    · rfl
  have pm4 : ∀ i, i < 19 → pmN i ≤ 3 → (i = 0 ∧ pmN i = 0) ∨ (i = 1 ∧ pmN i = 1) ∨ (i = 2 ∧ pmN i = 2) ∨ (i = 4 ∧ pmN i = 3) := by decide +kernel
  have bd : (∀ i, rwT B s.t = some i → i ≠ 0 ∧ i ≠ 1 ∧ i ≠ 2 ∧ i ≠ 4) → Sp l m_Md_fails (d + 8) 0 0 [.ref 114, .int 2] sh0 T (gI sh0 (fun x5 S4 => ((x5 = 0 ∨ x5 = 1) ∧ P x5 S4))) := by
    intro hi
    refine sp_failsM (k0 := 2) h2 (fun S' F M => ⟨Or.inl rfl, k 0 S' (Or.inl rfl) ?_⟩)
    rw [bad hi]
    exact ⟨rfl, h1.u F, M⟩
  have sem : ∀ (T' : aw_S) t3 g' nm' od' ld' pd', bdG g' → gpart B L s = (seK B L t3 fun t' => .inr (t', g', nm', od', ld', pd')) → GmR S0 T' B L (t3, g', nm', od', ld', pd') → Sp l m_Md_wantSign (d + 8) 0 0 [.ref 114, .int 59] sh0 T' (gI sh0 (fun x9 S8 => ((x9 = 0 → P 0 S8) ∧ (¬ x9 = 0 → P 1 S8)))) := by
    intro T' t3 g' nm' od' ld' pd' hb' e r
    refine sp_wantSign (α := GpS) r.2.1 (fun f hf T4 F4 M4 => ⟨fun _ => k 0 T4 (Or.inl rfl) ?_, fun y => absurd rfl y⟩) (fun hf T4 F4 G4 => ⟨fun y => absurd y (by decide), fun _ => k 1 T4 (Or.inr rfl) ?_⟩)
    · rw [e, hf]
      exact ⟨rfl, r.1.u F4, M4⟩
    · rw [e, hf]
      exact ⟨rfl, r.tok hb' F4 G4⟩
  have num : ∀ (hi lo to : Nat) (T2 : aw_S) (x : Int32) (od' ld' : Bool) (g1 : Nat → GM), x = nI hi - 1 → hi ≤ 100 → lo ≤ 100 → 2208 ≤ to → to < 2212 → GmR S0 T2 B L (tkF B L s.t.e, s.g, s.nm, od', ld', s.pd) → (∀ v, lo ≤ v → v < hi → bdG (g1 v)) → (∀ v, (g1 v).n = s.g.n) → (∀ v, MdG T2.1 2208 s.g → MdG (aw_uI T2 115 to (nI v)).1 2208 (g1 v)) → (gpart B L s = nuK B L (tkF B L s.t.e) lo hi fun v t => seK B L t fun t' => .inr (t', g1 v, s.nm, od', ld', s.pd)) → Sp l m_Md_number (d + 8) 0 0 [.ref 114, .int (nI to), .int (nI lo), .int x] sh0 T2 (gI sh0 (fun x6 S5 => ((x6 = 0 → P 0 S5) ∧ (¬ x6 = 0 → Sp l m_Md_wantSign (d + 8) 0 0 [.ref 114, .int 59] sh0 S5 (gI sh0 (fun x9 S8 => ((x9 = 0 → P 0 S8) ∧ (¬ x9 = 0 → P 1 S8)))))))) := by
    intro hi lo to T2 x od' ld' g1 hx hh hl hto hto2 r2 hbg hgn hmd e
    refine sp_numberM (lo := lo) (hi := hi) (α := GpS) hx hh hl (by omega) ((rT r2.1.2.2).at (by decide)) r2.2.1 (fun f hf T3 F3 M3 => ⟨fun _ => k 0 T3 (Or.inl rfl) ?_, fun y => absurd rfl y⟩) (fun v v1 v2 hf T3 F3 G3 => ⟨fun y => absurd y (by decide), fun _ => ?_⟩)
    · rw [e, hf]
      exact ⟨rfl, r2.1.u F3, M3⟩
    · rw [hf] at e
      refine sem T3 _ _ _ _ _ _ (hbg v v1 v2) e ?_
      have M2 := hmd v r2.2.2.1
      have c3 : ∀ j, T3.1 115 j = (aw_uI T2 115 to (nI v)).1 115 j := fun j => F3.1 115 j (by unfold FX; omega)
      have hbv := hbg v v1 v2
      refine ⟨(r2.1.uI _ (Or.inr (Or.inr ⟨rfl, by omega, by omega⟩))).u F3, G3, M2.fr hbv.1 hbv.2.2.2.2.1 (fun j _ => c3 _), fun d hd => ?_, ?_, ?_⟩
      · rw [F3.L]
        exact r2.2.2.2.1 d (by rw [← hgn v]; exact hd)
      · rw [F3.1 114 20 (by unfold FX; omega), uI_ne _ _ _ (by decide)]
        exact r2.2.2.2.2.1
      · rw [c3, c3, uI_at, if_pos rfl, if_neg (by omega), uI_at, if_pos rfl, if_neg (by omega)]
        exact r2.2.2.2.2.2
  have hn : s.g.n ≤ 7 := b1.1
  refine e_Md_greenPart rfl (sp_inWords x w c ?_)
  cases e : rwT B s.t with
  | none =>
    refine ⟨fun _ => bd (fun i hi => by rw [e] at hi; cases hi), fun z => absurd m1_lt z⟩
  | some i =>
    have hi := (rwT_lt e).1
    have p19 := (pc_ok i hi).2.2.1
    have ei : rmI (some i) = nI (pmN i) := rfl
    rw [ei]
    refine ⟨fun z => absurd z (nI_pos (by omega)), fun _ => ⟨fun z => ?_, fun z => bd (fun j hj => ?_)⟩⟩
    · have z := (nI_leI (b := 3) (by omega) (by omega)).mp z
      rcases pm4 i hi z with ⟨q1, q2⟩ | ⟨q1, q2⟩ | ⟨q1, q2⟩ | ⟨q1, q2⟩
      · subst q1
        rw [q2]
        have eg : gpart B L s = gpOdds B L s := by
          unfold gpart
          rw [e]
          rfl
        unfold gpOdds at eg
        refine ⟨fun y => absurd y (by decide), fun _ => ?_⟩
        rw [h5]
        refine sp_isInM (tp_in s.od s.ld s.pd).1 (fun qo => ⟨fun _ => sp_failsM (k0 := 5) h2 (fun S' F M => ⟨Or.inl rfl, k 0 S' (Or.inl rfl) ?_⟩), fun y => absurd y (by decide)⟩) (fun qo => ⟨fun y => absurd rfl y, fun _ => ⟨fun _ => ?_, fun y => absurd y (by decide)⟩⟩)
        · rw [eg, if_pos qo]
          exact ⟨rfl, h1.u F, M⟩
        · rw [if_neg (by rw [qo]; decide)] at eg
          refine s_Md_greenPart_62 rfl ⟨fun _ => ⟨fun _ => ?_, fun y => absurd y (by decide)⟩, fun y => absurd y (by decide)⟩
          have r1 : GmR S0 (aw_uI T 114 20 ((T.1 114 20) ||| ((1 : Int32) <<< (nI 0 &&& 31)))) B L (s.t, s.g, s.nm, true, s.ld, s.pd) := h.tp b1 rfl rfl rfl (by rw [h5]; exact (tp_or s.od s.ld s.pd).1)
          refine sp_aheadM r1.2.1 (fun T2 F2 G2 => ⟨fun y => absurd rfl y, fun _ => ?_⟩)
          have r2 := r1.tok b1 (AXF F2) G2
          refine num 17 0 2209 T2 16 true s.ld (odG s.g) (by decide) (by omega) (by omega) (by omega) (by omega) r2 (fun v v1 v2 => ?_) (fun _ => rfl) (fun v M => ?_) eg
          · obtain ⟨c1, c2, c3, c4, c5, c6, c7, c8, c9⟩ := b1
            exact ⟨c1, (show v ≤ 16 by omega), c3, c4, c5, c6, c7, c8, c9⟩
          · obtain ⟨y0, y1, y2, y3, y4, y5, y6⟩ := M
            have o : ∀ j, j ≠ 2209 → (aw_uI T2 115 2209 (nI v)).1 115 j = T2.1 115 j := fun j q => by rw [uI_at, if_pos rfl, if_neg q]
            refine ⟨?_, ?_, ?_, ?_, fun k hk => ?_, fun k hk => ?_, fun k hk => ?_⟩
            · rw [o _ (by decide)]; exact y0
            · rw [uI_at, if_pos rfl, if_pos rfl]; rfl
            · rw [o _ (by decide)]; exact y2
            · rw [o _ (by decide)]; exact y3
            · rw [o _ (by omega), o _ (by omega), o _ (by omega), o _ (by omega)]; exact y4 k hk
            · rw [o _ (by omega)]; exact y5 k hk
            · rw [o _ (by omega)]; exact y6 k hk
      · subst q1
        rw [q2]
        have eg : gpart B L s = gpLong B L s := by
          unfold gpart
          rw [e]
          rfl
        unfold gpLong at eg
        refine ⟨fun y => absurd y (by decide), fun _ => ?_⟩
        rw [h5]
        refine sp_isInM (tp_in s.od s.ld s.pd).2.1 (fun qo => ⟨fun _ => sp_failsM (k0 := 5) h2 (fun S' F M => ⟨Or.inl rfl, k 0 S' (Or.inl rfl) ?_⟩), fun y => absurd y (by decide)⟩) (fun qo => ⟨fun y => absurd rfl y, fun _ => ⟨fun y => absurd rfl y, fun _ => ?_⟩⟩)
        · rw [eg, if_pos (Or.inl qo)]
          exact ⟨rfl, h1.u F, M⟩
        · rw [h5]
          refine sp_isInM (tp_in s.od s.ld s.pd).2.2 (fun qp => ⟨fun y => absurd y (by decide), fun _ => sp_failsM (k0 := 5) h2 (fun S' F M => ⟨Or.inl rfl, k 0 S' (Or.inl rfl) ?_⟩)⟩) (fun qp => ⟨fun _ => ?_, fun y => absurd rfl y⟩)
          · rw [eg, if_pos (Or.inr qp)]
            exact ⟨rfl, h1.u F, M⟩
          · rw [if_neg (by rw [qo, qp]; decide)] at eg
            refine s_Md_greenPart_62 rfl ⟨fun _ => ⟨fun _ => ?_, fun y => absurd y (by decide)⟩, fun y => absurd y (by decide)⟩
            have r1 : GmR S0 (aw_uI T 114 20 ((T.1 114 20) ||| ((1 : Int32) <<< (nI 1 &&& 31)))) B L (s.t, s.g, s.nm, s.od, true, s.pd) := h.tp b1 rfl rfl rfl (by rw [h5]; exact (tp_or s.od s.ld s.pd).2.1)
            refine sp_aheadM r1.2.1 (fun T2 F2 G2 => ⟨fun _ => ?_, fun y => absurd y (by decide)⟩)
            have r2 := r1.tok b1 (AXF F2) G2
            refine num 41 1 2210 T2 40 s.od true (lgG s.g) (by decide) (by omega) (by omega) (by omega) (by omega) r2 (fun v v1 v2 => ?_) (fun _ => rfl) (fun v M => ?_) eg
            · obtain ⟨c1, c2, c3, c4, c5, c6, c7, c8, c9⟩ := b1
              exact ⟨c1, c2, v1, (show v ≤ 40 by omega), c5, c6, c7, c8, c9⟩
            · obtain ⟨y0, y1, y2, y3, y4, y5, y6⟩ := M
              have o : ∀ j, j ≠ 2210 → (aw_uI T2 115 2210 (nI v)).1 115 j = T2.1 115 j := fun j q => by rw [uI_at, if_pos rfl, if_neg q]
              refine ⟨?_, ?_, ?_, ?_, fun k hk => ?_, fun k hk => ?_, fun k hk => ?_⟩
              · rw [o _ (by decide)]; exact y0
              · rw [o _ (by decide)]; exact y1
              · rw [uI_at, if_pos rfl, if_pos rfl]; rfl
              · rw [o _ (by decide)]; exact y3
              · rw [o _ (by omega), o _ (by omega), o _ (by omega), o _ (by omega)]; exact y4 k hk
              · rw [o _ (by omega)]; exact y5 k hk
              · rw [o _ (by omega)]; exact y6 k hk
      · subst q1
        rw [q2]
        have eg : gpart B L s = gpDancer B L s := by
          unfold gpart
          rw [e]
          rfl
        refine ⟨fun _ => ⟨fun _ => ?_, fun y => absurd y (by decide)⟩, fun y => absurd (by decide) y⟩
        refine s_Md_greenPart_62 rfl ⟨fun y => absurd rfl y, fun _ => sp_aDancer hR hB h (fun f T' hf F M => ⟨fun _ => k 0 T' (Or.inl rfl) ?_, fun y => absurd rfl y⟩) (fun T' t4 g' nm' hf hb' r => ⟨fun y => absurd y (by decide), fun _ => sem T' t4 g' nm' s.od s.ld s.pd hb' (eg.trans hf) r⟩)⟩
        rw [eg, hf]
        exact ⟨rfl, F, M⟩
      · subst q1
        rw [q2]
        have eg : gpart B L s = gpPass B L s := by
          unfold gpart
          rw [e]
          rfl
        refine ⟨fun _ => ⟨fun _ => ?_, fun y => absurd y (by decide)⟩, fun y => absurd (by decide) y⟩
        have r1 : GmR S0 (aw_uI T 114 20 ((T.1 114 20) ||| ((1 : Int32) <<< (nI 3 &&& 31)))) B L (s.t, s.g, s.nm, s.od, s.ld, true) := h.tp b1 rfl rfl rfl (by rw [h5]; exact (tp_or s.od s.ld s.pd).2.2)
        refine s_Md_greenPart_62 rfl ⟨fun _ => ⟨fun y => absurd rfl y, fun _ => sp_aPass hR hB r1 (fun f T' hf F M => ⟨fun _ => k 0 T' (Or.inl rfl) ?_, fun y => absurd rfl y⟩) (fun T' t3 g' hf hb' r => ⟨fun y => absurd y (by decide), fun _ => sem T' t3 g' s.nm s.od s.ld true hb' (eg.trans hf) r⟩)⟩, fun y => absurd y (by decide)⟩
        rw [eg, hf]
        exact ⟨rfl, F, M⟩
    · rw [e] at hj
      have hj := Option.some.inj hj
      subst hj
      have pm5 : ∀ i, i < 19 → (i = 0 ∨ i = 1 ∨ i = 2 ∨ i = 4) → pmN i ≤ 3 := by decide +kernel
      have no : ¬ (i = 0 ∨ i = 1 ∨ i = 2 ∨ i = 4) := fun y => z (nI_le (b := 3) (pm5 i hi y) (by omega))
      omega
end GPM
