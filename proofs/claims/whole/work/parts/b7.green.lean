/-! a green as a text: pure facts; the class reads it -/
section INV
variable {B : Nat → Nat} {L : Nat} {α : Type}
theorem nuK_r {t : TK} {lo hi : Nat} {F : Nat → TK → RsT α} {s : α} (h : nuK B L t lo hi F = .inr s) : ∃ v, lo ≤ v ∧ v < hi ∧ F v (tkF B L t.e) = .inr s := by
  unfold nuK at h
  split at h
  · split at h
    · rename_i q; exact ⟨_, q.1, q.2, h⟩
    · cases h
  · cases h
theorem seK_r {t : TK} {F : TK → RsT α} {s : α} (h : seK B L t F = .inr s) : F (tkF B L t.e) = .inr s := by
  unfold seK at h
  split at h
  · exact h
  · cases h
theorem rsK_r {t : TK} {w : Nat} {F : TK → RsT α} {s : α} (h : rsK B L w t F = .inr s) : F (tkF B L t.e) = .inr s := by
  unfold rsK at h
  split at h
  · exact h
  · cases h
/-- a fault that can be -/
def okF (L : Nat) (f : Nat × Nat) : Prop := 1 ≤ f.1 ∧ f.1 ≤ 7 ∧ f.2 ≤ L
theorem blF_ok {k : Nat} {t : TK} (hk : 1 ≤ k) (hk2 : k ≤ 7) (w : TkW B L t) : okF L (blF k t) := by
  refine ⟨?_, ?_, Nat.le_trans w.1 w.2.1⟩
  · show 1 ≤ (if t.k = 4 then 1 else k)
    split <;> omega
  · show (if t.k = 4 then 1 else k) ≤ 7
    split <;> omega
theorem nuK_l {t : TK} {lo hi : Nat} {F : Nat → TK → RsT α} {f : Nat × Nat} (w : TkW B L t) (h : nuK B L t lo hi F = .inl f) (hF : ∀ v, v < hi → F v (tkF B L t.e) = .inl f → okF L f) : okF L f := by
  unfold nuK at h
  split at h
  · split at h
    · rename_i q; exact hF _ q.2 h
    · rw [← Sum.inl.inj h]; exact blF_ok (by decide) (by decide) w
  · rw [← Sum.inl.inj h]; exact blF_ok (by decide) (by decide) w
theorem seK_l {t : TK} {F : TK → RsT α} {f : Nat × Nat} (w : TkW B L t) (h : seK B L t F = .inl f) (hF : F (tkF B L t.e) = .inl f → okF L f) : okF L f := by
  unfold seK at h
  split at h
  · exact hF h
  · rw [← Sum.inl.inj h]; exact blF_ok (by decide) (by decide) w
theorem rsK_l {t : TK} {w0 : Nat} {F : TK → RsT α} {f : Nat × Nat} (w : TkW B L t) (h : rsK B L w0 t F = .inl f) (hF : F (tkF B L t.e) = .inl f → okF L f) : okF L f := by
  unfold rsK at h
  split at h
  · exact hF h
  · rw [← Sum.inl.inj h]; exact blF_ok (by decide) (by decide) w
theorem tkW_n {t : TK} (w : TkW B L t) : TkW B L (tkF B L t.e) := (tkF_ok w.2.1).1
theorem tkW_b {t : TK} (w : TkW B L t) : t.e ≤ (tkF B L t.e).e := by
  have h1 := (tkF_ok (B := B) w.2.1).2
  have h2 := (tkW_n w).1
  omega
end INV
section GPF
variable {B : Nat → Nat} {L : Nat} {s s' : GpS}
theorem gpOdds_r (h : gpOdds B L s = .inr s') (hB : GpB s) (w : TkW B L s.t) : GpB s' ∧ s.t.e ≤ s'.t.b ∧ TkW B L s'.t := by
  unfold gpOdds at h
  split at h
  · cases h
  · obtain ⟨v, v1, v2, h⟩ := nuK_r h
    have h := seK_r h
    have h := Sum.inr.inj h
    subst h
    obtain ⟨⟨c1, c2, c3, c4, c5, c6, c7, c8, c9⟩, b2, b3, b4⟩ := hB
    have w1 := tkW_n w
    have w2 := tkW_n w1
    have w3 := tkF_ok (B := B) w2.2.1
    have m1 := tkW_b w
    have m2 := tkW_b w1
    exact ⟨⟨⟨c1, (show v ≤ 16 by omega), c3, c4, c5, c6, c7, c8, c9⟩, b2, b3, b4⟩, (show s.t.e ≤ (tkF B L (tkF B L (tkF B L s.t.e).e).e).b by omega), w3.1⟩
theorem gpLong_r (h : gpLong B L s = .inr s') (hB : GpB s) (w : TkW B L s.t) : GpB s' ∧ s.t.e ≤ s'.t.b ∧ TkW B L s'.t := by
  unfold gpLong at h
  split at h
  · cases h
  · obtain ⟨v, v1, v2, h⟩ := nuK_r h
    have h := seK_r h
    have h := Sum.inr.inj h
    subst h
    obtain ⟨⟨c1, c2, c3, c4, c5, c6, c7, c8, c9⟩, b2, b3, b4⟩ := hB
    have w1 := tkW_n w
    have w2 := tkW_n w1
    have w3 := tkF_ok (B := B) w2.2.1
    have m1 := tkW_b w
    have m2 := tkW_b w1
    exact ⟨⟨⟨c1, c2, v1, (show v ≤ 40 by omega), c5, c6, c7, c8, c9⟩, b2, b3, b4⟩, (show s.t.e ≤ (tkF B L (tkF B L (tkF B L s.t.e).e).e).b by omega), w3.1⟩
theorem gpDancer_r (h : gpDancer B L s = .inr s') (hB : GpB s) (w : TkW B L s.t) : GpB s' ∧ s.t.e ≤ s'.t.b ∧ TkW B L s'.t := by
  unfold gpDancer at h
  split at h
  · cases h
  · rename_i np
    split at h
    · cases h
    · rename_i n7
      split at h
      · rename_i q
        split at h
        · obtain ⟨v, v1, v2, h⟩ := nuK_r (rsK_r h)
          have h := seK_r h
          have h := Sum.inr.inj h
          subst h
          obtain ⟨b1, b2, b3, b4⟩ := hB
          have pf : s.pd = false := by
            cases e : s.pd with
            | false => rfl
            | true => exact absurd e np
          have hn : s.g.n ≤ 7 := b1.1
          have m0 := b3 pf
          have w1 := tkW_n w
          have w2 := tkW_n w1
          have w3 := tkW_n w2
          have w4 := tkW_n w3
          have w5 := tkF_ok (B := B) w4.2.1
          have m1 := tkW_b w
          have m2 := tkW_b w1
          have m3 := tkW_b w2
          have m4 := tkW_b w3
          refine ⟨⟨bdG.jn b1 (by omega) (by omega) m0, ?_, b3, fun d hd => ?_⟩, (show s.t.e ≤ (tkF B L (tkF B L (tkF B L (tkF B L (tkF B L s.t.e).e).e).e).e).b by omega), w5.1⟩
          · intro j k h1 h2
            have h2 : k < s.g.m := h2
            omega
          · have hd : d < s.g.n + 1 := hd
            show okW (upW s.nm s.g.n (wdT B (tkF B L s.t.e)) d)
            unfold upW
            by_cases e : d = s.g.n
            · rw [if_pos e]
              exact ⟨by unfold wdT; rw [wdL_len]; exact q.2.1, wdT_in w1 q.1⟩
            · rw [if_neg e]
              exact b4 d (by omega)
        · cases h
      · cases h
theorem gpPass_r (h : gpPass B L s = .inr s') (hB : GpB s) (w : TkW B L s.t) : GpB s' ∧ s.t.e ≤ s'.t.b ∧ TkW B L s'.t := by
  unfold gpPass at h
  obtain ⟨gap, v1, v2, h⟩ := nuK_r h
  obtain ⟨b1, b2, b3, b4⟩ := hB
  have w1 := tkW_n w
  have w2 := tkW_n w1
  have w3 := tkW_n w2
  have w4 := tkF_ok (B := B) w3.2.1
  have m1 := tkW_b w
  have m2 := tkW_b w1
  have m3 := tkW_b w2
  have key : ∀ over, over < 2 → s' = (tkF B L (tkF B L (tkF B L (tkF B L s.t.e).e).e).e, (psG s.g gap over).2, s.nm, s.od, s.ld, true) → GpB s' ∧ s.t.e ≤ s'.t.b ∧ TkW B L s'.t := by
    intro over ho e
    subst e
    obtain ⟨p1, p2, p3, -⟩ := ps_ok b1 b2 v2 ho
    refine ⟨⟨p1, p2, fun z => absurd (show true = false from z) (by decide), fun d hd => b4 d ?_⟩, (show s.t.e ≤ (tkF B L (tkF B L (tkF B L (tkF B L s.t.e).e).e).e).b by omega), w4.1⟩
    rw [← p3]; exact hd
  split at h
  · split at h
    · cases h
    · have h := seK_r h
      exact key 1 (by omega) (Sum.inr.inj h).symm
  · split at h
    · split at h
      · cases h
      · have h := seK_r h
        exact key 0 (by omega) (Sum.inr.inj h).symm
    · cases h
theorem gpart_r (h : gpart B L s = .inr s') (hB : GpB s) (w : TkW B L s.t) : GpB s' ∧ s.t.e ≤ s'.t.b ∧ TkW B L s'.t := by
  unfold gpart at h
  split at h
  · exact gpOdds_r h hB w
  · exact gpLong_r h hB w
  · exact gpDancer_r h hB w
  · exact gpPass_r h hB w
  · cases h
theorem gpart_l {f : Nat × Nat} (h : gpart B L s = .inl f) (w : TkW B L s.t) : okF L f := by
  have w1 := tkW_n w
  have w2 := tkW_n w1
  have w3 := tkW_n w2
  have w4 := tkW_n w3
  have bl : ∀ k (t : TK), 1 ≤ k → k ≤ 7 → TkW B L t → (.inl (blF k t) : RsT GpS) = .inl f → okF L f := fun k t h1 h2 w e => by
    rw [← Sum.inl.inj e]; exact blF_ok h1 h2 w
  unfold gpart at h
  split at h
  · unfold gpOdds at h
    split at h
    · exact bl 5 _ (by decide) (by decide) w h
    · exact nuK_l w1 h (fun v _ h => seK_l w2 h (fun h => by cases h))
  · unfold gpLong at h
    split at h
    · exact bl 5 _ (by decide) (by decide) w h
    · exact nuK_l w1 h (fun v _ h => seK_l w2 h (fun h => by cases h))
  · unfold gpDancer at h
    split at h
    · exact bl 5 _ (by decide) (by decide) w h
    · split at h
      · exact bl 6 _ (by decide) (by decide) w h
      · split at h
        · split at h
          · exact rsK_l w2 h (fun h => nuK_l w3 h (fun v _ h => seK_l w4 h (fun h => by cases h)))
          · exact bl 3 _ (by decide) (by decide) w1 h
        · exact bl 2 _ (by decide) (by decide) w1 h
  · unfold gpPass at h
    refine nuK_l w1 h (fun gap _ h => ?_)
    split at h
    · split at h
      · exact bl 5 _ (by decide) (by decide) w2 h
      · exact seK_l w3 h (fun h => by cases h)
    · split at h
      · split at h
        · exact bl 5 _ (by decide) (by decide) w2 h
        · exact seK_l w3 h (fun h => by cases h)
      · exact bl 2 _ (by decide) (by decide) w2 h
  · exact bl 2 _ (by decide) (by decide) w h
theorem gall_0 {f : Nat} (h : s.t.k = 0) : gall B L f s = .inr s := by
  cases f with
  | zero => rfl
  | succ f =>
    unfold gall
    rw [if_pos h]
theorem gall_l {fl : Nat × Nat} : ∀ f (s : GpS), GpB s → TkW B L s.t → gall B L f s = .inl fl → okF L fl := by
  intro f
  induction f with
  | zero => intro s _ _ h; cases h
  | succ f ih =>
    intro s hB w h
    unfold gall at h
    split at h
    · cases h
    · split at h
      · rename_i e
        rw [← Sum.inl.inj h]
        exact gpart_l e w
      · rename_i e
        obtain ⟨r1, r2, r3⟩ := gpart_r e hB w
        exact ih _ r1 r3 h
theorem gall_r : ∀ f (s s' : GpS), GpB s → TkW B L s.t → gall B L f s = .inr s' → GpB s' := by
  intro f
  induction f with
  | zero => intro s s' hB _ h; rw [← Sum.inr.inj h]; exact hB
  | succ f ih =>
    intro s s' hB w h
    unfold gall at h
    split at h
    · rw [← Sum.inr.inj h]; exact hB
    · split at h
      · cases h
      · rename_i e
        obtain ⟨r1, r2, r3⟩ := gpart_r e hB w
        exact ih _ _ r1 r3 h
end GPF
/-- a green of nobody; how a green's reading begins -/
def g0G : GM := (0, 2, 12, 0, fun _ => 0, fun _ => 0, fun _ => 0)
def gs0 (B : Nat → Nat) (L : Nat) : GpS := (tkF B L 0, g0G, fun _ => [], false, false, false)
theorem gs0_B (B : Nat → Nat) (L : Nat) : GpB (gs0 B L) := ⟨⟨(by decide : (0 : Nat) ≤ 7), (by decide : (2 : Nat) ≤ 16), (by decide : (1 : Nat) ≤ 12), (by decide : (12 : Nat) ≤ 40), (by decide : (0 : Nat) ≤ 40), fun k hk => absurd hk (Nat.not_lt_zero k), fun k hk => absurd hk (Nat.not_lt_zero k), fun k hk => absurd hk (Nat.not_lt_zero k), fun k _ hk => absurd hk (Nat.not_lt_zero k)⟩, fun j k _ hk => absurd hk (Nat.not_lt_zero k), fun _ => rfl, fun d hd => absurd hd (Nat.not_lt_zero d)⟩
/-- what the class's reading of a green leaves -/
def RgC (b : Nat) (S S' : aw_S) (r : RsT GpS) : Prop := (∀ k j, ¬ (k = 94 ∨ k = 93 ∨ (b ≤ k ∧ k ≤ b + 13)) → S'.1 k j = S.1 k j) ∧ (∀ k j, ¬ (k = 94 ∨ k = b + 1) → S'.2.1 k j = S.2.1 k j) ∧ (∀ k, k ≠ 93 → k ≠ 94 → S'.2.2 k = S.2.2 k) ∧ RefsOk S'.2.2 ∧ match r with
  | .inl f => S'.1 93 0 = nI f.1 ∧ S'.1 93 1 = nI f.2
  | .inr s => S'.1 93 0 = 0 ∧ S'.1 93 1 = -1 ∧ GrG S'.1 b s.g ∧ (∀ d, d < s.g.n → S'.2.1 (b + 1) d = lN (p5 (s.nm d))) ∧ S'.1 b 3 = 0 ∧ S'.1 b 4 = 0 ∧ S'.1 (b + 8) 0 = 0 ∧ S'.1 (b + 8) 1 = 0
theorem rf_93 {R R' : Nat → Nat → Option Nat} (h : RefsOk R) (e : ∀ k, k ≠ 93 → k ≠ 94 → R' k = R k) (e1 : R' 93 2 = R 93 2) (e2 : R' 93 9 = R 93 9) (e3 : R' 94 10 = R 94 10) : RefsOk R' := by
  have n : ∀ q ∈ rfT, (q.1 ≠ 93 ∧ q.1 ≠ 94) ∨ (q.1 = 93 ∧ q.2.1 = 2) ∨ (q.1 = 93 ∧ q.2.1 = 9) ∨ (q.1 = 94 ∧ q.2.1 = 10) := by decide +kernel
  intro q hq
  have h0 := h q hq
  rcases n q hq with ⟨a1, a2⟩ | ⟨a1, a2⟩ | ⟨a1, a2⟩ | ⟨a1, a2⟩
  · rw [e _ a1 a2]; exact h0
  · rw [a1, a2] at h0 ⊢; rw [e1]; exact h0
  · rw [a1, a2] at h0 ⊢; rw [e2]; exact h0
  · rw [a1, a2] at h0 ⊢; rw [e3]; exact h0
section RGC
variable {l : Launch} {d b L : Nat} {B : Nat → Nat} {S : aw_S}
/-- the loop over the parts -/
theorem rg_loop {S0 : aw_S} {P : aw_S → Prop} (hR : RefsOk S0.2.2) (r3 : S0.2.2 93 3 = some b) (hb : b = 11 ∨ b = 26) (hL : L ≤ 900) (k : ∀ S' r, GcF b S0 S' → (match r with | .inl f => FtC S' f | .inr s => GcR b S0 S' B L s) → r = gall B L (L + 1) (gs0 B L) → ∃ r2, S'.2.2 93 3 = some r2 ∧ sh0[r2]? = some (0, 2) ∧ Sp l m_Gr_forgetDone (d + 6) 0 0 [.ref r2] sh0 S' (gV sh0 (fun S4 => Sp l m_Re_closeReading (d + 6) 0 0 [.ref 93] sh0 S4 (gV sh0 (fun S5 => P S5))))) : ∀ f part s S, (s.t.k ≠ 0 → part < s.t.e) → (s.t.k ≠ 0 → L + 1 - s.t.e ≤ f) → part ≤ L → GpB s → GcR b S0 S B L s → gall B L f s = gall B L (L + 1) (gs0 B L) → AW l m_Re_readGreen (d + 7) 0 0 (gV sh0 P) 0 0 42 [.ref 93, .null, .int (nI L), .null, .int 1, .int (nI part)] [] sh0 S := by
  intro f
  induction f with
  | zero =>
    intro part s S hp hf hpL hB h e
    obtain ⟨h1, h2, -⟩ := id h
    obtain ⟨-, c, w, -⟩ := id h2
    have rr : S.2.2 93 2 = some 94 := by rw [h1.2.2]; exact hR.at (by decide)
    have k0 : s.t.k = 0 := Classical.byContradiction (fun y => by
      have := hf y
      have := w.2.1
      omega)
    refine s_Re_readGreen_42 rfl ⟨fun z => absurd z (nI_nlt hpL (by omega)), fun _ => ⟨fun z => absurd z (by decide), fun _ => ⟨94, rr, rfl, fun z => k S (.inr s) h1 h ?_, fun z => absurd (by rw [c.1, k0]; rfl) z⟩⟩⟩
    rw [← e, gall_0 k0]
  | succ f ih =>
    intro part s S hp hf hpL hB h e
    obtain ⟨h1, h2, -⟩ := id h
    obtain ⟨-, c, w, -⟩ := id h2
    have rr : S.2.2 93 2 = some 94 := by rw [h1.2.2]; exact hR.at (by decide)
    have w3 := w.2.2.1
    have wL := w.2.1
    refine s_Re_readGreen_42 rfl ⟨fun z => absurd z (nI_nlt hpL (by omega)), fun _ => ⟨fun z => absurd z (by decide), fun _ => ⟨94, rr, rfl, fun z => ?_, fun z => ?_⟩⟩⟩
    · rw [c.1] at z
      have k0 : s.t.k = 0 := (nI_inj (b := 0) (by omega) (by omega)).mp z
      refine k S (.inr s) h1 h ?_
      rw [← e, gall_0 k0]
    · have k0 : ¬ s.t.k = 0 := fun y => z (by rw [c.1, y]; rfl)
      have hp' := hp k0
      refine sp_takePart hR r3 hb hB h (fun x S' hx o => ?_)
      rw [nI_1]
      unfold gall at e
      rw [if_neg k0] at e
      cases eg : gpart B L s with
      | inl fl =>
        rw [eg] at o e
        obtain ⟨o1, o2, o3⟩ := o
        subst o1
        have fin := k S' (.inl fl) o2 o3 e
        refine s_Re_readGreen_42 rfl ⟨fun _ => fin, fun _ => ⟨fun _ => fin, fun y => absurd rfl y⟩⟩
      | inr s' =>
        rw [eg] at o e
        obtain ⟨o1, o2⟩ := o
        subst o1
        obtain ⟨q1, q2, q3⟩ := gpart_r eg hB w
        have hf' := hf k0
        refine ih (part + 1) s' S' (fun y => ?_) (fun y => ?_) (by omega) q1 o2 e
        · have := q3.2.2.2.1 y
          omega
        · have := q3.2.2.2.1 y
          omega
theorem sp_readGreen {P : aw_S → Prop} (hR : RefsOk S.2.2) (hb : b = 11 ∨ b = 26) (hL : L ≤ 900) (hT : ∀ j, j < L → byP (S.1 10 j) (B j)) (hr : ∀ j, j < 19 → S.2.1 95 j = lN (p5 (kwN j))) (k : ∀ S', RgC b S S' (gall B L (L + 1) (gs0 B L)) → P S') : Sp l m_Re_readGreen (d + 7) 0 0 [.ref 93, .ref 10, .int (nI L), .ref b] sh0 S (gV sh0 P) := by
  have hS : GrS sh0 S.2.2 b := GrS.mk0 hR (by omega)
  have hF : FeS sh0 S.2.2 (b + 8) := FeS.mk0 hR (by omega)
  have ra : ∀ k j, k ≠ 93 → (aw_uR S 93 3 (some b)).2.2 k j = S.2.2 k j := fun k j q => by rw [uR_at, if_neg q]
  refine e_Re_readGreen rfl ⟨b, by rw [uR_at, if_pos rfl, if_pos rfl], hS.sa, e_Gr_clear hS.sa ⟨b + 6, (ra b 10 (by omega)).trans hS.r10, hS.s6, b + 8, (ra b 11 (by omega)).trans hS.r11, hF.1, e_Fe_clear hF.1 (e_Gr_forgetDone hS.sa ⟨94, ?_, rfl, ?_⟩)⟩⟩
  · show (aw_uR S 93 3 (some b)).2.2 93 2 = some 94
    rw [uR_at, if_pos rfl, if_neg (by decide)]
    exact hR.at (by decide)
  · -- the state ahead of the tokens
    have U1 : ∀ k j, ¬ (k = 93 ∨ (k = b ∧ j ≤ 4) ∨ k = b + 6 ∨ k = b + 8) → (aw_uI (aw_uI (aw_uI (aw_uI (aw_uI (aw_uI (aw_uI (aw_uI (aw_uI (aw_uI (aw_uI (aw_uR S 93 3 (some b)) b 0 0) b 1 2) b 2 12) (b + 6) 1 0) (b + 8) 0 0) (b + 8) 1 0) b 3 0) b 4 0) 93 5 0) 93 6 0) 93 7 0).1 k j = S.1 k j := by
      intro k j q
      have a1 : ∀ (T : aw_S) (c i : Nat) (v : Int32), ¬ (k = c ∧ j = i) → (aw_uI T c i v).1 k j = T.1 k j := fun T c i v y => by
        rw [uI_at]
        by_cases z : k = c
        · rw [if_pos z, if_neg (fun w => y ⟨z, w⟩), z]
        · rw [if_neg z]
      rw [a1 _ _ _ _ (by omega), a1 _ _ _ _ (by omega), a1 _ _ _ _ (by omega), a1 _ _ _ _ (by omega), a1 _ _ _ _ (by omega), a1 _ _ _ _ (by omega), a1 _ _ _ _ (by omega), a1 _ _ _ _ (by omega), a1 _ _ _ _ (by omega), a1 _ _ _ _ (by omega), a1 _ _ _ _ (by omega)]
      rfl
    have n1 : b ≠ 93 ∧ b + 6 ≠ b ∧ b + 8 ≠ b ∧ b + 6 ≠ 93 ∧ b + 8 ≠ 93 ∧ b + 8 ≠ b + 6 := by omega
    obtain ⟨n1, n2, n3, n4, n5, n6⟩ := n1
    have V : (aw_uI (aw_uI (aw_uI (aw_uI (aw_uI (aw_uI (aw_uI (aw_uI (aw_uI (aw_uI (aw_uI (aw_uR S 93 3 (some b)) b 0 0) b 1 2) b 2 12) (b + 6) 1 0) (b + 8) 0 0) (b + 8) 1 0) b 3 0) b 4 0) 93 5 0) 93 6 0) 93 7 0).1 b 0 = 0 ∧ (aw_uI (aw_uI (aw_uI (aw_uI (aw_uI (aw_uI (aw_uI (aw_uI (aw_uI (aw_uI (aw_uI (aw_uR S 93 3 (some b)) b 0 0) b 1 2) b 2 12) (b + 6) 1 0) (b + 8) 0 0) (b + 8) 1 0) b 3 0) b 4 0) 93 5 0) 93 6 0) 93 7 0).1 b 1 = 2 ∧ (aw_uI (aw_uI (aw_uI (aw_uI (aw_uI (aw_uI (aw_uI (aw_uI (aw_uI (aw_uI (aw_uI (aw_uR S 93 3 (some b)) b 0 0) b 1 2) b 2 12) (b + 6) 1 0) (b + 8) 0 0) (b + 8) 1 0) b 3 0) b 4 0) 93 5 0) 93 6 0) 93 7 0).1 b 2 = 12 ∧ (aw_uI (aw_uI (aw_uI (aw_uI (aw_uI (aw_uI (aw_uI (aw_uI (aw_uI (aw_uI (aw_uI (aw_uR S 93 3 (some b)) b 0 0) b 1 2) b 2 12) (b + 6) 1 0) (b + 8) 0 0) (b + 8) 1 0) b 3 0) b 4 0) 93 5 0) 93 6 0) 93 7 0).1 (b + 6) 1 = 0 ∧ ((aw_uI (aw_uI (aw_uI (aw_uI (aw_uI (aw_uI (aw_uI (aw_uI (aw_uI (aw_uI (aw_uI (aw_uR S 93 3 (some b)) b 0 0) b 1 2) b 2 12) (b + 6) 1 0) (b + 8) 0 0) (b + 8) 1 0) b 3 0) b 4 0) 93 5 0) 93 6 0) 93 7 0).1 (b + 8) 0 = 0 ∧ (aw_uI (aw_uI (aw_uI (aw_uI (aw_uI (aw_uI (aw_uI (aw_uI (aw_uI (aw_uI (aw_uI (aw_uR S 93 3 (some b)) b 0 0) b 1 2) b 2 12) (b + 6) 1 0) (b + 8) 0 0) (b + 8) 1 0) b 3 0) b 4 0) 93 5 0) 93 6 0) 93 7 0).1 (b + 8) 1 = 0) ∧ ((aw_uI (aw_uI (aw_uI (aw_uI (aw_uI (aw_uI (aw_uI (aw_uI (aw_uI (aw_uI (aw_uI (aw_uR S 93 3 (some b)) b 0 0) b 1 2) b 2 12) (b + 6) 1 0) (b + 8) 0 0) (b + 8) 1 0) b 3 0) b 4 0) 93 5 0) 93 6 0) 93 7 0).1 93 5 = 0 ∧ (aw_uI (aw_uI (aw_uI (aw_uI (aw_uI (aw_uI (aw_uI (aw_uI (aw_uI (aw_uI (aw_uI (aw_uR S 93 3 (some b)) b 0 0) b 1 2) b 2 12) (b + 6) 1 0) (b + 8) 0 0) (b + 8) 1 0) b 3 0) b 4 0) 93 5 0) 93 6 0) 93 7 0).1 93 6 = 0 ∧ (aw_uI (aw_uI (aw_uI (aw_uI (aw_uI (aw_uI (aw_uI (aw_uI (aw_uI (aw_uI (aw_uI (aw_uR S 93 3 (some b)) b 0 0) b 1 2) b 2 12) (b + 6) 1 0) (b + 8) 0 0) (b + 8) 1 0) b 3 0) b 4 0) 93 5 0) 93 6 0) 93 7 0).1 93 7 = 0) := by
      simp [uI_at, n1, n2, n3, n4, n5, n6, n1.symm, n2.symm, n3.symm, n4.symm, n5.symm, n6.symm]
    have UL : (aw_uI (aw_uI (aw_uI (aw_uI (aw_uI (aw_uI (aw_uI (aw_uI (aw_uI (aw_uI (aw_uI (aw_uR S 93 3 (some b)) b 0 0) b 1 2) b 2 12) (b + 6) 1 0) (b + 8) 0 0) (b + 8) 1 0) b 3 0) b 4 0) 93 5 0) 93 6 0) 93 7 0).2.1 = S.2.1 := rfl
    have UR : (aw_uI (aw_uI (aw_uI (aw_uI (aw_uI (aw_uI (aw_uI (aw_uI (aw_uI (aw_uI (aw_uI (aw_uR S 93 3 (some b)) b 0 0) b 1 2) b 2 12) (b + 6) 1 0) (b + 8) 0 0) (b + 8) 1 0) b 3 0) b 4 0) 93 5 0) 93 6 0) 93 7 0).2.2 = (aw_uR S 93 3 (some b)).2.2 := rfl
    generalize (aw_uI (aw_uI (aw_uI (aw_uI (aw_uI (aw_uI (aw_uI (aw_uI (aw_uI (aw_uI (aw_uI (aw_uR S 93 3 (some b)) b 0 0) b 1 2) b 2 12) (b + 6) 1 0) (b + 8) 0 0) (b + 8) 1 0) b 3 0) b 4 0) 93 5 0) 93 6 0) 93 7 0) = U at U1 V UL UR
    obtain ⟨v0, v1, v2, v3, ⟨v4, v5⟩, v6, v7, v8⟩ := V
    refine e_To_begin rfl ?_
    have R94 : ∀ i, i ≠ 6 → (aw_uR U 94 6 (some 10)).2.2 94 i = S.2.2 94 i := fun i hi => by rw [uR_at, if_pos rfl, if_neg hi, UR]; exact ra 94 i (by decide)
    have Rk : ∀ k, k ≠ 93 → k ≠ 94 → (aw_uR U 94 6 (some 10)).2.2 k = S.2.2 k := fun k q1 q2 => funext fun j => by rw [uR_at, if_neg q2, UR]; exact ra k j q1
    have R93 : ∀ i, i ≠ 3 → (aw_uR U 94 6 (some 10)).2.2 93 i = S.2.2 93 i := fun i hi => by rw [uR_at, if_neg (by decide), UR, uR_at, if_pos rfl, if_neg hi]
    have hRU : RefsOk (aw_uR U 94 6 (some 10)).2.2 := rf_93 hR Rk (R93 2 (by decide)) (R93 9 (by decide)) (R94 10 (by decide))
    have x94 : (aw_uI (aw_uI (aw_uI (aw_uI (aw_uR U 94 6 (some 10)) 94 7 (nI L)) 94 9 0) 94 0 0) 94 1 (-1)).1 94 7 = nI L ∧ (aw_uI (aw_uI (aw_uI (aw_uI (aw_uR U 94 6 (some 10)) 94 7 (nI L)) 94 9 0) 94 0 0) 94 1 (-1)).1 94 9 = nI 0 ∧ (aw_uI (aw_uI (aw_uI (aw_uI (aw_uR U 94 6 (some 10)) 94 7 (nI L)) 94 9 0) 94 0 0) 94 1 (-1)).1 94 0 = 0 ∧ (aw_uI (aw_uI (aw_uI (aw_uI (aw_uR U 94 6 (some 10)) 94 7 (nI L)) 94 9 0) 94 0 0) 94 1 (-1)).1 94 1 = -1 := by
      simp only [uI_at]
      refine ⟨rfl, rfl, rfl, rfl⟩
    have xo : ∀ k, k ≠ 94 → (aw_uI (aw_uI (aw_uI (aw_uI (aw_uR U 94 6 (some 10)) 94 7 (nI L)) 94 9 0) 94 0 0) 94 1 (-1)).1 k = U.1 k := fun k q => by
      rw [uI_ne _ _ _ q, uI_ne _ _ _ q, uI_ne _ _ _ q, uI_ne _ _ _ q]
      rfl
    have xL : (aw_uI (aw_uI (aw_uI (aw_uI (aw_uR U 94 6 (some 10)) 94 7 (nI L)) 94 9 0) 94 0 0) 94 1 (-1)).2.1 = S.2.1 := UL
    have xR : (aw_uI (aw_uI (aw_uI (aw_uI (aw_uR U 94 6 (some 10)) 94 7 (nI L)) 94 9 0) 94 0 0) 94 1 (-1)).2.2 = (aw_uR U 94 6 (some 10)).2.2 := rfl
    generalize aw_uI (aw_uI (aw_uI (aw_uI (aw_uR U 94 6 (some 10)) 94 7 (nI L)) 94 9 0) 94 0 0) 94 1 (-1) = V at x94 xo xL xR
    obtain ⟨x7, x9, x0, x1⟩ := x94
    have hx : TxC V B L := ⟨by rw [xR, uR_at, if_pos rfl, if_pos rfl], x7, hL, fun j hj => by rw [xo 10 (by decide), U1 10 j (by omega)]; exact hT j hj⟩
    refine sp_advance hx x9 (Nat.zero_le _) (fun W F T => ?_)
    have hRW : RefsOk W.2.2 := by rw [F.2.2, xR]; exact hRU
    have r3W : W.2.2 93 3 = some b := by rw [F.2.2, xR, uR_at, if_neg (by decide), UR, uR_at, if_pos rfl, if_pos rfl]
    have cW : ∀ k j, k ≠ 94 → W.1 k j = U.1 k j := fun k j q => by rw [F.1 k j (by omega), xo k q]
    have hG : GcR b W W B L (gs0 B L) := by
      refine ⟨⟨fun _ _ _ => rfl, fun _ _ _ => rfl, rfl⟩, ⟨hx.fr F, T, (tkF_ok (Nat.zero_le _)).1, (F.1 94 0 (by omega)).trans x0, (F.1 94 1 (by omega)).trans x1, hRW.at (by decide), fun j hj => ?_⟩, ⟨?_, ?_, ?_, ?_, fun k hk => absurd hk (Nat.not_lt_zero k), fun k hk => absurd hk (Nat.not_lt_zero k), fun k hk => absurd hk (Nat.not_lt_zero k), fun k hk => absurd hk (Nat.not_lt_zero k)⟩, fun d hd => absurd hd (Nat.not_lt_zero d), ?_⟩
      · rw [F.2.1 95 j (by decide), xL]; exact hr j hj
      · rw [cW b 0 (by omega)]; exact v0
      · rw [cW b 1 (by omega)]; exact v1
      · rw [cW b 2 (by omega)]; exact v2
      · rw [cW (b + 6) 1 (by omega)]; exact v3
      · rw [cW 93 5 (by decide), cW 93 6 (by decide), cW 93 7 (by decide)]
        exact ⟨v6, v7, v8⟩
    have w0 := (tkF_ok (B := B) (L := L) (q := 0) (Nat.zero_le _)).1
    refine rg_loop hRW r3W hb hL (fun S' r G M e => ⟨b, by rw [G.2.2]; exact r3W, hS.sa, e_Gr_forgetDone hS.sa (e_Re_closeReading rfl ⟨94, by show S'.2.2 93 2 = _; rw [G.2.2]; exact hRW.at (by decide), rfl, k _ ?_⟩)⟩) (L + 1) 0 (gs0 B L) W (fun y => ?_) (fun _ => by omega) (Nat.zero_le _) (gs0_B B L) hG rfl
    · have q94 : ∀ j, (aw_uI (aw_uI S' b 3 0) b 4 0).1 94 j = S'.1 94 j := fun j => by rw [uI_ne _ _ _ (by omega), uI_ne _ _ _ (by omega)]
      rw [q94, uI_ne _ _ _ (show 94 ≠ 93 by decide), q94]
      refine ⟨fun k j q => ?_, fun k j q => ?_, fun k q1 q2 => ?_, ?_, ?_⟩
      · rw [uI_ne _ _ _ (by omega), uI_ne _ _ _ (by omega), uI_ne _ _ _ (by omega), uI_ne _ _ _ (by omega), G.1 k j (by omega), cW k j (by omega)]
        exact U1 k j (by omega)
      · show S'.2.1 k j = _
        rw [G.2.1 k j q, F.2.1 k j (by omega), xL]
      · show S'.2.2 k = _
        rw [G.2.2, F.2.2, xR]
        exact Rk k q1 q2
      · show RefsOk S'.2.2
        rw [G.2.2]
        exact hRW
      · rw [← e]
        have z0 : (aw_uI (aw_uI (aw_uI (aw_uI S' b 3 0) b 4 0) 93 0 (S'.1 94 0)) 93 1 (S'.1 94 1)).1 93 0 = S'.1 94 0 := by rw [uI_at, if_pos rfl, if_neg (by decide), uI_at, if_pos rfl, if_pos rfl]
        have z1 : (aw_uI (aw_uI (aw_uI (aw_uI S' b 3 0) b 4 0) 93 0 (S'.1 94 0)) 93 1 (S'.1 94 1)).1 93 1 = S'.1 94 1 := by rw [uI_at, if_pos rfl, if_pos rfl]
        have zb : ∀ k, k ≠ 93 → k ≠ b → (aw_uI (aw_uI (aw_uI (aw_uI S' b 3 0) b 4 0) 93 0 (S'.1 94 0)) 93 1 (S'.1 94 1)).1 k = S'.1 k := fun k q1 q2 => by rw [uI_ne _ _ _ q1, uI_ne _ _ _ q1, uI_ne _ _ _ q2, uI_ne _ _ _ q2]
        have zc : ∀ i, i ≠ 3 → i ≠ 4 → (aw_uI (aw_uI (aw_uI (aw_uI S' b 3 0) b 4 0) 93 0 (S'.1 94 0)) 93 1 (S'.1 94 1)).1 b i = S'.1 b i := fun i q1 q2 => by rw [uI_ne _ _ _ n1, uI_ne _ _ _ n1, uI_at, if_pos rfl, if_neg q2, uI_at, if_pos rfl, if_neg q1]
        cases r with
        | inl fl =>
          exact ⟨z0.trans M.1, z1.trans M.2⟩
        | inr s =>
          obtain ⟨-, ⟨-, -, -, f0, f1, -⟩, g3, g4, -⟩ := M
          obtain ⟨q0, q1, q2, q3, q4, q5, q6, q7⟩ := g3
          refine ⟨z0.trans f0, z1.trans f1, ⟨?_, ?_, ?_, ?_, ?_, ?_, ?_, ?_⟩, g4, ?_, ?_, ?_, ?_⟩
          · rw [zc 0 (by decide) (by decide)]; exact q0
          · rw [zc 1 (by decide) (by decide)]; exact q1
          · rw [zc 2 (by decide) (by decide)]; exact q2
          · rw [zb _ (by omega) (by omega)]; exact q3
          · rw [zb _ (by omega) (by omega)]; exact q4
          · rw [zb _ (by omega) (by omega)]; exact q5
          · rw [zb _ (by omega) (by omega), zb _ (by omega) (by omega)]; exact q6
          · rw [zb _ (by omega) (by omega)]; exact q7
          · rw [uI_ne _ _ _ n1, uI_ne _ _ _ n1, uI_at, if_pos rfl, if_neg (by decide), uI_at, if_pos rfl, if_pos rfl]
          · rw [uI_ne _ _ _ n1, uI_ne _ _ _ n1, uI_at, if_pos rfl, if_pos rfl]
          · rw [zb _ (by omega) (by omega), G.1 _ _ (by omega), cW _ _ (by omega)]; exact v4
          · rw [zb _ (by omega) (by omega), G.1 _ _ (by omega), cW _ _ (by omega)]; exact v5
    · have := w0.2.2.2.1 y
      show 0 < (tkF B L 0).e
      omega
end RGC
