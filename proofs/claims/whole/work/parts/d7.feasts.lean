/-! feasts as a text: the class reads all of it -/
/-- what the class's reading of feasts leaves -/
def RfC (S S' : aw_S) (r : RsT FpS) : Prop := (∀ k j, ¬ (k = 94 ∨ k = 93 ∨ (87 ≤ k ∧ k ≤ 92) ∨ k = 96) → S'.1 k j = S.1 k j) ∧ (∀ k j, k ≠ 94 → S'.2.1 k j = S.2.1 k j) ∧ (∀ k, k ≠ 93 → k ≠ 94 → S'.2.2 k = S.2.2 k) ∧ RefsOk S'.2.2 ∧ match r with
  | .inl f => S'.1 93 0 = nI f.1 ∧ S'.1 93 1 = nI f.2
  | .inr s => S'.1 93 0 = 0 ∧ S'.1 93 1 = -1 ∧ FdC S'.1 s
section RFC
variable {l : Launch} {d b L n : Nat} {B : Nat → Nat} {S : aw_S} {nm : Nat → List Nat}
theorem rf_loop {S0 : aw_S} {P : aw_S → Prop} (hn : n ≤ 7) (hb : b = 11 ∨ b = 26) (hR : FcS S0.2.2 b) (h0 : S0.1 b 0 = nI n) (hnm : ∀ d, d < n → S0.2.1 (b + 1) d = lN (p5 (nm d)) ∧ okW (nm d)) (hL : L ≤ 900) (k : ∀ S' r, FcF S0 S' → (match r with | .inl f => FtC S' f | .inr s => FcR S0 S' B L s) → r = fall B L n nm (L + 1) (fs0 B L) → Sp l m_Re_closeReading (d + 6) 0 0 [.ref 93] sh0 S' (gV sh0 (fun S5 => P S5))) : ∀ f part s S, (s.t.k ≠ 0 → part < s.t.e) → (s.t.k ≠ 0 → L + 1 - s.t.e ≤ f) → part ≤ L → FpB n s → FcR S0 S B L s → fall B L n nm f s = fall B L n nm (L + 1) (fs0 B L) → AW l m_Re_readFeasts (d + 7) 0 0 (gV sh0 P) 0 0 46 [.ref 93, .null, .int (nI L), .null, .null, .int 1, .int (nI part)] [] sh0 S := by
  have fin : ∀ s S, FpB n s → FcR S0 S B L s → fend s = fall B L n nm (L + 1) (fs0 B L) → ((S.1 93 8 ≤ 0 → Sp l m_Re_closeReading (d + 6) 0 0 [.ref 93] sh0 S (gV sh0 (fun S27 => P S27))) ∧ (¬ S.1 93 8 ≤ 0 → Sp l m_To_blame (d + 6) 0 0 [.ref 94, .int 2] sh0 S (gI sh0 (fun x29 S28 => Sp l m_Re_closeReading (d + 6) 0 0 [.ref 93] sh0 S28 (gV sh0 (fun S30 => P S30)))))) := by
    intro s S hB h e
    obtain ⟨h1, h2, h3, h6, h7⟩ := id h
    have b1 := hB.1
    unfold fend at e
    rw [h6]
    refine ⟨fun z => ?_, fun z => ?_⟩
    · have D0 : s.D ≤ 0 := (nI_leI (b := 0) (by omega) (by omega)).mp z
      rw [if_pos (by omega)] at e
      exact k S (.inr s) h1 h e
    · have D0 : ¬ s.D = 0 := fun y => z (by rw [y]; exact nI_le (a := 0) (b := 0) (by omega) (by omega))
      rw [if_neg D0] at e
      exact sp_blame (k0 := 2) h2 (fun S' F T => k S' (.inl (blF 2 s.t)) (h1.u F) T e)
  intro f
  induction f with
  | zero =>
    intro part s S hp hf hpL hB h e
    obtain ⟨h1, h2, -⟩ := id h
    obtain ⟨-, c, w, -⟩ := id h2
    have rr : S.2.2 93 2 = some 94 := by rw [h1.2.2]; exact hR.1
    have k0 : s.t.k = 0 := Classical.byContradiction (fun y => by
      have := hf y
      have := w.2.1
      omega)
    refine s_Re_readFeasts_46 rfl ⟨fun z => absurd z (nI_nlt hpL (by omega)), fun _ => ⟨fun z => absurd z (by decide), fun _ => ⟨94, rr, rfl, fun z => ⟨fun y => absurd y (by decide), fun _ => fin s S hB h ?_⟩, fun z => absurd (by rw [c.1, k0]; rfl) z⟩⟩⟩
    rw [← e, fall_0 k0]
  | succ f ih =>
    intro part s S hp hf hpL hB h e
    obtain ⟨h1, h2, -⟩ := id h
    obtain ⟨-, c, w, -, -, r⟩ := id h2
    have rr : S.2.2 93 2 = some 94 := by rw [h1.2.2]; exact hR.1
    have w3 := w.2.2.1
    have wL := w.2.1
    refine s_Re_readFeasts_46 rfl ⟨fun z => absurd z (nI_nlt hpL (by omega)), fun _ => ⟨fun z => absurd z (by decide), fun _ => ⟨94, rr, rfl, fun z => ⟨fun y => absurd y (by decide), fun _ => fin s S hB h ?_⟩, fun z => ?_⟩⟩⟩
    · rw [c.1] at z
      have k0 : s.t.k = 0 := (nI_inj (b := 0) (by omega) (by omega)).mp z
      rw [← e, fall_0 k0]
    · have k0 : ¬ s.t.k = 0 := fun y => z (by rw [c.1, y]; rfl)
      have hp' := hp k0
      have go : ∀ x S', OutF S0 B L x S' (fstep B L n nm s) → AW l m_Re_readFeasts (d + 7) 0 0 (gV sh0 P) 0 0 46 [.ref 93, .null, .int (nI L), .null, .null, .int x, .int (nI part + 1)] [] sh0 S' := by
        intro x S' o
        rw [nI_1]
        unfold fall at e
        rw [if_neg k0] at e
        cases eg : fstep B L n nm s with
        | inl fl =>
          rw [eg] at o e
          obtain ⟨o1, o2, o3⟩ := o
          subst o1
          have fin := k S' (.inl fl) o2 o3 e
          exact s_Re_readFeasts_46 rfl ⟨fun _ => ⟨fun _ => fin, fun y => absurd rfl y⟩, fun _ => ⟨fun _ => ⟨fun _ => fin, fun y => absurd rfl y⟩, fun y => absurd rfl y⟩⟩
        | inr s' =>
          rw [eg] at o e
          obtain ⟨o1, o2⟩ := o
          subst o1
          obtain ⟨q1, q2, q3⟩ := fstep_r eg hB w
          have hf' := hf k0
          refine ih (part + 1) s' S' (fun y => ?_) (fun y => ?_) (by omega) q1 o2 e
          · have := q3.2.2.2.1 y
            omega
          · have := q3.2.2.2.1 y
            omega
      have e17 := oI_rw (B := B) (t := s.t) (w := 17) (by omega)
      refine sp_reserved r w c ⟨fun z => sp_takeStep hn hb hR h0 hnm hB h (fun y => z (e17.mpr y)) (fun x S' hx o => go x S' o), fun z => sp_takeEnd hR hB h (fun x S' hx o => go x S' ?_)⟩
      have : fstep B L n nm s = if s.D = 0 then .inl (blF 2 s.t) else seK B L (tkF B L s.t.e) fun t' => .inr (cloS s t') := by
        unfold fstep
        rw [e17.mp z]
        rfl
      rw [this]
      exact o
theorem sp_readFeasts {P : aw_S → Prop} (hR : RefsOk S.2.2) (hn : n ≤ 7) (hb : b = 11 ∨ b = 26) (h0 : S.1 b 0 = nI n) (hnm : ∀ d, d < n → S.2.1 (b + 1) d = lN (p5 (nm d)) ∧ okW (nm d)) (hL : L ≤ 900) (hT : ∀ j, j < L → byP (S.1 10 j) (B j)) (hr : ∀ j, j < 19 → S.2.1 95 j = lN (p5 (kwN j))) (k : ∀ S', RfC S S' (fall B L n nm (L + 1) (fs0 B L)) → P S') : Sp l m_Re_readFeasts (d + 7) 0 0 [.ref 93, .ref 10, .int (nI L), .ref b, .ref 87] sh0 S (gV sh0 P) := by
  have hS : GrS sh0 S.2.2 b := GrS.mk0 hR (by omega)
  have hF : FeS sh0 S.2.2 87 := FeS.mk0 hR (by omega)
  have ra : ∀ k j, k ≠ 93 → (aw_uR (aw_uR S 93 3 (some b)) 93 4 (some 87)).2.2 k j = S.2.2 k j := fun k j q => by rw [uR_at, if_neg q, uR_at, if_neg q]
  have rb : ∀ j, j ≠ 3 → j ≠ 4 → (aw_uR (aw_uR S 93 3 (some b)) 93 4 (some 87)).2.2 93 j = S.2.2 93 j := fun j q1 q2 => by rw [uR_at, if_pos rfl, if_neg q2, uR_at, if_pos rfl, if_neg q1]
  have r3 : (aw_uR (aw_uR S 93 3 (some b)) 93 4 (some 87)).2.2 93 3 = some b := by rw [uR_at, if_pos rfl, if_neg (by decide), uR_at, if_pos rfl, if_pos rfl]
  have r4 : (aw_uR (aw_uR S 93 3 (some b)) 93 4 (some 87)).2.2 93 4 = some 87 := by rw [uR_at, if_pos rfl, if_pos rfl]
  refine e_Re_readFeasts rfl ⟨87, r4, rfl, e_Fe_clear rfl ⟨87, r4, rfl, 94, (rb 2 (by decide) (by decide)).trans (hR.at (by decide)), rfl, ?_⟩⟩
  have U1 : ∀ k j, ¬ (k = 93 ∨ k = 87) → (aw_uI (aw_uI (aw_uI (aw_uI (aw_uR (aw_uR S 93 3 (some b)) 93 4 (some 87)) 87 0 0) 87 1 0) 87 0 1) 93 8 0).1 k j = S.1 k j := fun k j q => by
    rw [uI_ne _ _ _ (by omega), uI_ne _ _ _ (by omega), uI_ne _ _ _ (by omega), uI_ne _ _ _ (by omega)]
    rfl
  have V : (aw_uI (aw_uI (aw_uI (aw_uI (aw_uR (aw_uR S 93 3 (some b)) 93 4 (some 87)) 87 0 0) 87 1 0) 87 0 1) 93 8 0).1 87 0 = 1 ∧ (aw_uI (aw_uI (aw_uI (aw_uI (aw_uR (aw_uR S 93 3 (some b)) 93 4 (some 87)) 87 0 0) 87 1 0) 87 0 1) 93 8 0).1 87 1 = 0 ∧ (aw_uI (aw_uI (aw_uI (aw_uI (aw_uR (aw_uR S 93 3 (some b)) 93 4 (some 87)) 87 0 0) 87 1 0) 87 0 1) 93 8 0).1 93 8 = 0 := by
    simp only [uI_at]
    exact ⟨rfl, rfl, rfl⟩
  have UL : (aw_uI (aw_uI (aw_uI (aw_uI (aw_uR (aw_uR S 93 3 (some b)) 93 4 (some 87)) 87 0 0) 87 1 0) 87 0 1) 93 8 0).2.1 = S.2.1 := rfl
  have UR : (aw_uI (aw_uI (aw_uI (aw_uI (aw_uR (aw_uR S 93 3 (some b)) 93 4 (some 87)) 87 0 0) 87 1 0) 87 0 1) 93 8 0).2.2 = (aw_uR (aw_uR S 93 3 (some b)) 93 4 (some 87)).2.2 := rfl
  generalize (aw_uI (aw_uI (aw_uI (aw_uI (aw_uR (aw_uR S 93 3 (some b)) 93 4 (some 87)) 87 0 0) 87 1 0) 87 0 1) 93 8 0) = U at U1 V UL UR
  generalize (aw_uR (aw_uR S 93 3 (some b)) 93 4 (some 87)).2.2 = Rr at ra rb r3 r4 UR
  obtain ⟨v0, v1, v2⟩ := V
  refine e_To_begin rfl ?_
  have R94 : ∀ i, i ≠ 6 → (aw_uR U 94 6 (some 10)).2.2 94 i = S.2.2 94 i := fun i hi => by rw [uR_at, if_pos rfl, if_neg hi, UR]; exact ra 94 i (by decide)
  have Rk : ∀ k, k ≠ 93 → k ≠ 94 → (aw_uR U 94 6 (some 10)).2.2 k = S.2.2 k := fun k q1 q2 => funext fun j => by rw [uR_at, if_neg q2, UR]; exact ra k j q1
  have R93 : ∀ i, i ≠ 3 → i ≠ 4 → (aw_uR U 94 6 (some 10)).2.2 93 i = S.2.2 93 i := fun i h1 h2 => by rw [uR_at, if_neg (by decide), UR]; exact rb i h1 h2
  have hRU : RefsOk (aw_uR U 94 6 (some 10)).2.2 := rf_93 hR Rk (R93 2 (by decide) (by decide)) (R93 9 (by decide) (by decide)) (R94 10 (by decide))
  have x94 : (aw_uI (aw_uI (aw_uI (aw_uI (aw_uR U 94 6 (some 10)) 94 7 (nI L)) 94 9 0) 94 0 0) 94 1 (-1)).1 94 7 = nI L ∧ (aw_uI (aw_uI (aw_uI (aw_uI (aw_uR U 94 6 (some 10)) 94 7 (nI L)) 94 9 0) 94 0 0) 94 1 (-1)).1 94 9 = nI 0 ∧ (aw_uI (aw_uI (aw_uI (aw_uI (aw_uR U 94 6 (some 10)) 94 7 (nI L)) 94 9 0) 94 0 0) 94 1 (-1)).1 94 0 = 0 ∧ (aw_uI (aw_uI (aw_uI (aw_uI (aw_uR U 94 6 (some 10)) 94 7 (nI L)) 94 9 0) 94 0 0) 94 1 (-1)).1 94 1 = -1 := by
    simp only [uI_at]
    refine ⟨rfl, rfl, rfl, rfl⟩
  have xo : ∀ k, k ≠ 94 → (aw_uI (aw_uI (aw_uI (aw_uI (aw_uR U 94 6 (some 10)) 94 7 (nI L)) 94 9 0) 94 0 0) 94 1 (-1)).1 k = U.1 k := fun k q => by
    rw [uI_ne _ _ _ q, uI_ne _ _ _ q, uI_ne _ _ _ q, uI_ne _ _ _ q]
    rfl
  have xL : (aw_uI (aw_uI (aw_uI (aw_uI (aw_uR U 94 6 (some 10)) 94 7 (nI L)) 94 9 0) 94 0 0) 94 1 (-1)).2.1 = S.2.1 := UL
  have xR : (aw_uI (aw_uI (aw_uI (aw_uI (aw_uR U 94 6 (some 10)) 94 7 (nI L)) 94 9 0) 94 0 0) 94 1 (-1)).2.2 = (aw_uR U 94 6 (some 10)).2.2 := rfl
  generalize aw_uI (aw_uI (aw_uI (aw_uI (aw_uR U 94 6 (some 10)) 94 7 (nI L)) 94 9 0) 94 0 0) 94 1 (-1) = V at x94 xo xL xR
  obtain ⟨x7, x9, x0, x1⟩ := x94
  have hx : TxC V B L := ⟨by rw [xR, uR_at, if_pos rfl, if_pos rfl], x7, hL, fun j hj => by rw [xo 10 (by decide), U1 10 j (by omega)]; exact hT j hj⟩
  refine sp_advance hx x9 (Nat.zero_le _) (fun W F T => ?_)
  have eW : W.2.2 = (aw_uR U 94 6 (some 10)).2.2 := by rw [F.2.2, xR]
  have hRW : RefsOk W.2.2 := by rw [eW]; exact hRU
  have hFW : FcS W.2.2 b := ⟨hRW.at (by decide), by rw [eW, uR_at, if_neg (by decide), UR]; exact r3, by rw [eW, uR_at, if_neg (by decide), UR]; exact r4, FeS.mk0 hRW (by omega), hRW.at (by decide), GrS.mk0 hRW (by omega)⟩
  have cW : ∀ k j, k ≠ 94 → W.1 k j = U.1 k j := fun k j q => by rw [F.1 k j (by omega), xo k q]
  have hG : FcR W W B L (fs0 B L) := by
    refine ⟨⟨fun _ _ _ => rfl, fun _ _ _ => rfl, rfl⟩, ⟨hx.fr F, T, (tkF_ok (Nat.zero_le _)).1, (F.1 94 0 (by omega)).trans x0, (F.1 94 1 (by omega)).trans x1, hRW.at (by decide), fun j hj => ?_⟩, ⟨?_, ?_, fun e he => absurd he (Nat.not_lt_zero e)⟩, ?_, fun i hi => absurd hi (Nat.not_lt_zero i)⟩
    · rw [F.2.1 95 j (by decide), xL]; exact hr j hj
    · rw [cW 87 0 (by omega)]; exact v0
    · rw [cW 87 1 (by omega)]; exact v1
    · rw [cW 93 8 (by omega)]; exact v2
  have w0 := (tkF_ok (B := B) (L := L) (q := 0) (Nat.zero_le _)).1
  refine rf_loop (nm := nm) hn hb hFW (by rw [cW b 0 (by omega), U1 b 0 (by omega)]; exact h0) (fun d hd => by rw [F.2.1 _ _ (by omega), xL]; exact hnm d hd) hL (fun S' r G M e => e_Re_closeReading rfl ⟨94, by rw [G.2.2]; exact hFW.1, rfl, k _ ?_⟩) (L + 1) 0 (fs0 B L) W (fun y => ?_) (fun _ => by omega) (Nat.zero_le _) (fs0_B B L n) hG rfl
  · rw [uI_ne _ _ _ (show 94 ≠ 93 by decide)]
    refine ⟨fun k j q => ?_, fun k j q => ?_, fun k q1 q2 => ?_, ?_, ?_⟩
    · rw [uI_ne _ _ _ (by omega), uI_ne _ _ _ (by omega), G.1 k j (by omega), cW k j (by omega)]
      exact U1 k j (by omega)
    · show S'.2.1 k j = _
      rw [G.2.1 k j q, F.2.1 k j (by omega), xL]
    · show S'.2.2 k = _
      rw [G.2.2, eW]
      exact Rk k q1 q2
    · show RefsOk S'.2.2
      rw [G.2.2]
      exact hRW
    · rw [← e]
      have z0 : (aw_uI (aw_uI S' 93 0 (S'.1 94 0)) 93 1 (S'.1 94 1)).1 93 0 = S'.1 94 0 := by rw [uI_at, if_pos rfl, if_neg (by decide), uI_at, if_pos rfl, if_pos rfl]
      have z1 : (aw_uI (aw_uI S' 93 0 (S'.1 94 0)) 93 1 (S'.1 94 1)).1 93 1 = S'.1 94 1 := by rw [uI_at, if_pos rfl, if_pos rfl]
      have zb : ∀ k, k ≠ 93 → (aw_uI (aw_uI S' 93 0 (S'.1 94 0)) 93 1 (S'.1 94 1)).1 k = S'.1 k := fun k q1 => by rw [uI_ne _ _ _ q1, uI_ne _ _ _ q1]
      cases r with
      | inl fl => exact ⟨z0.trans M.1, z1.trans M.2⟩
      | inr s =>
        obtain ⟨-, ⟨-, -, -, f0, f1, -⟩, ⟨g1, g2, g3⟩, -⟩ := M
        refine ⟨z0.trans f0, z1.trans f1, ?_, ?_, fun e he hc => ?_⟩
        · rw [zb _ (by omega)]; exact g1
        · rw [zb _ (by omega)]; exact g2
        · rw [zb _ (by omega), zb _ (by omega), zb _ (by omega), zb _ (by omega), zb _ (by omega)]
          exact g3 e he hc
  · have := w0.2.2.2.1 y
    show 0 < (tkF B L 0).e
    omega
end RFC
