/-! feasts as a text: what the pure reading keeps -/
section FIN
variable {B : Nat → Nat} {L n form : Nat} {nm : Nat → List Nat} {t : TK} {α : Type}
theorem naK_r {F : Nat → TK → RsT α} {s : α} (h : naK B L n nm t F = .inr s) : ∃ v, v < n ∧ F v (tkF B L t.e) = .inr s := by
  unfold naK at h
  split at h
  · split at h
    · rename_i e
      have := nmF_lt n 0 _ e
      exact ⟨_, by omega, h⟩
    · cases h
  · cases h
theorem naK_l {F : Nat → TK → RsT α} {f : Nat × Nat} (w : TkW B L t) (h : naK B L n nm t F = .inl f) (hF : ∀ v, F v (tkF B L t.e) = .inl f → okF L f) : okF L f := by
  unfold naK at h
  split at h
  · split at h
    · exact hF _ h
    · rw [← Sum.inl.inj h]; exact blF_ok (by decide) (by decide) w
  · rw [← Sum.inl.inj h]; exact blF_ok (by decide) (by decide) w
theorem tk_nx (w : TkW B L t) : TkW B L (tkF B L t.e) ∧ t.b ≤ (tkF B L t.e).b := by
  have h1 := tkF_ok (B := B) w.2.1
  have := w.1
  exact ⟨h1.1, by omega⟩
/-- what stands behind a word, if it can be -/
def frOk (B : Nat → Nat) (L n form : Nat) (t : TK) (c x1 x2 x5 : Nat) (t' : TK) : Prop := enV n c x1 x2 x5 ∧ TkW B L t' ∧ t.b ≤ t'.b ∧ ((c = 12 ∨ 1100 ≤ c) → form = 16 ∨ (12 ≤ form ∧ form ≤ 15))
theorem fres_r {F : Nat → Nat → Nat → Nat → TK → RsT α} {s : α} (hf : isStp form ∨ (12 ≤ form ∧ form ≤ 15)) (w : TkW B L t) (h : fres B L n nm form t F = .inr s) : ∃ c x1 x2 x5 t', frOk B L n form t c x1 x2 x5 t' ∧ F c x1 x2 x5 t' = .inr s := by
  unfold isStp at hf
  have n1 := tk_nx w
  have n2 := tk_nx n1.1
  have n3 := tk_nx n2.1
  have h2 : form = 4 ∨ form = 7 ∨ form = 8 ∨ form = 9 ∨ form = 10 ∨ form = 11 ∨ form = 16 ∨ form = 18 ∨ form = 12 ∨ form = 13 ∨ form = 14 ∨ form = 15 := by omega
  rcases h2 with e | e | e | e | e | e | e | e | e | e | e | e <;> subst e
  · rw [fres_4] at h
    obtain ⟨v, v1, v2, h⟩ := nuK_r h
    split at h
    · exact ⟨3, v, 1, 0, _, ⟨Or.inl ⟨rfl, v2, by omega⟩, n2.1, by omega, by omega⟩, h⟩
    · split at h
      · exact ⟨3, v, 0, 0, _, ⟨Or.inl ⟨rfl, v2, by omega⟩, n2.1, by omega, by omega⟩, h⟩
      · cases h
  · rw [fres_7] at h
    exact ⟨7, 0, 0, 0, _, ⟨by unfold enV; omega, w, by omega, by omega⟩, h⟩
  · rw [fres_8] at h
    obtain ⟨v, v1, v2, h⟩ := nuK_r h
    exact ⟨8, v, 0, 0, _, ⟨by unfold enV; omega, n1.1, by omega, by omega⟩, h⟩
  · rw [fres_9] at h
    obtain ⟨v, v1, h⟩ := naK_r h
    obtain ⟨u, u1, u2, h⟩ := nuK_r h
    exact ⟨9, v, u, 0, _, ⟨by unfold enV; omega, n2.1, by omega, by omega⟩, h⟩
  · rw [fres_10] at h
    exact ⟨10, 0, 0, 0, _, ⟨by unfold enV; omega, w, by omega, by omega⟩, h⟩
  · rw [fres_11] at h
    cases h
  · rw [fres_16] at h
    obtain ⟨v, v1, v2, h⟩ := nuK_r h
    exact ⟨12, v, 0, 0, _, ⟨by unfold enV; omega, n1.1, by omega, by omega⟩, h⟩
  · rw [fres_18] at h
    exact ⟨14, 0, 0, 0, _, ⟨by unfold enV; omega, w, by omega, by omega⟩, h⟩
  · rw [fres_12] at h
    obtain ⟨v, v1, h⟩ := naK_r h
    exact ⟨1115, v, 0, 0, _, ⟨by unfold enV; omega, n1.1, by omega, by omega⟩, h⟩
  · rw [fres_13] at h
    obtain ⟨v, v1, h⟩ := naK_r h
    obtain ⟨u, u1, u2, h⟩ := nuK_r h
    exact ⟨1116, v, u, 0, _, ⟨by unfold enV; omega, n2.1, by omega, by omega⟩, h⟩
  · rw [fres_14] at h
    obtain ⟨v, v1, v2, h⟩ := nuK_r h
    obtain ⟨u, u1, u2, h⟩ := nuK_r h
    exact ⟨1117, v, u, 0, _, ⟨by unfold enV; omega, n2.1, by omega, by omega⟩, h⟩
  · rw [fres_15] at h
    split at h
    · rename_i q
      obtain ⟨u, u1, u2, h⟩ := nuK_r h
      have := sign_in w q
      exact ⟨1118, 0, u, B t.b, _, ⟨by unfold enV; omega, n2.1, by omega, by omega⟩, h⟩
    · cases h
theorem fres_l {F : Nat → Nat → Nat → Nat → TK → RsT α} {f : Nat × Nat} (hf : isStp form ∨ (12 ≤ form ∧ form ≤ 15)) (w : TkW B L t) (h : fres B L n nm form t F = .inl f) (hF : ∀ c x1 x2 x5 t', TkW B L t' → F c x1 x2 x5 t' = .inl f → okF L f) : okF L f := by
  unfold isStp at hf
  have n1 := (tk_nx w).1
  have n2 := (tk_nx n1).1
  have n3 := (tk_nx n2).1
  have bl : ∀ k (t : TK), 1 ≤ k → k ≤ 7 → TkW B L t → (.inl (blF k t) : RsT α) = .inl f → okF L f := fun k t h1 h2 w e => by
    rw [← Sum.inl.inj e]; exact blF_ok h1 h2 w
  have h2 : form = 4 ∨ form = 7 ∨ form = 8 ∨ form = 9 ∨ form = 10 ∨ form = 11 ∨ form = 16 ∨ form = 18 ∨ form = 12 ∨ form = 13 ∨ form = 14 ∨ form = 15 := by omega
  rcases h2 with e | e | e | e | e | e | e | e | e | e | e | e <;> subst e
  · rw [fres_4] at h
    refine nuK_l w h (fun v _ h => ?_)
    split at h
    · exact hF _ _ _ _ _ n2 h
    · split at h
      · exact hF _ _ _ _ _ n2 h
      · exact bl 2 _ (by decide) (by decide) n1 h
  · rw [fres_7] at h
    exact hF _ _ _ _ _ w h
  · rw [fres_8] at h
    exact nuK_l w h (fun v _ h => hF _ _ _ _ _ n1 h)
  · rw [fres_9] at h
    exact naK_l w h (fun v h => nuK_l n1 h (fun v _ h => hF _ _ _ _ _ n2 h))
  · rw [fres_10] at h
    exact hF _ _ _ _ _ w h
  · rw [fres_11] at h
    exact bl 2 _ (by decide) (by decide) w h
  · rw [fres_16] at h
    exact nuK_l w h (fun v _ h => hF _ _ _ _ _ n1 h)
  · rw [fres_18] at h
    exact hF _ _ _ _ _ w h
  · rw [fres_12] at h
    exact naK_l w h (fun v h => hF _ _ _ _ _ n1 h)
  · rw [fres_13] at h
    exact naK_l w h (fun v h => nuK_l n1 h (fun v _ h => hF _ _ _ _ _ n2 h))
  · rw [fres_14] at h
    exact nuK_l w h (fun v _ h => nuK_l n1 h (fun v _ h => hF _ _ _ _ _ n2 h))
  · rw [fres_15] at h
    split at h
    · exact nuK_l n1 h (fun v _ h => hF _ _ _ _ _ n2 h)
    · exact bl 2 _ (by decide) (by decide) w h
/-- which form a step's word takes -/
theorem frK_cases (B : Nat → Nat) (L n k : Nat) (nm : Nat → List Nat) (t : TK) (F : Nat → Nat → Nat → Nat → TK → RsT α) : (k ≠ 11 ∧ frK B L n nm k t F = fres B L n nm k t F) ∨ (k = 11 ∧ ∃ w, 12 ≤ w ∧ w ≤ 15 ∧ rwT B t = some w ∧ frK B L n nm k t F = fres B L n nm w (tkF B L t.e) F) ∨ (k = 11 ∧ (¬ rwT B t = some 12 ∧ ¬ rwT B t = some 13 ∧ ¬ rwT B t = some 14 ∧ ¬ rwT B t = some 15) ∧ frK B L n nm k t F = .inl (blF 2 t)) := by
  unfold frK
  by_cases q : k = 11
  · right
    rw [if_pos q]
    by_cases q2 : rwT B t = some 12
    · exact Or.inl ⟨q, 12, by omega, by omega, q2, if_pos q2⟩
    · rw [if_neg q2]
      by_cases q3 : rwT B t = some 13
      · exact Or.inl ⟨q, 13, by omega, by omega, q3, if_pos q3⟩
      · rw [if_neg q3]
        by_cases q4 : rwT B t = some 14
        · exact Or.inl ⟨q, 14, by omega, by omega, q4, if_pos q4⟩
        · rw [if_neg q4]
          by_cases q5 : rwT B t = some 15
          · exact Or.inl ⟨q, 15, by omega, by omega, q5, if_pos q5⟩
          · exact Or.inr ⟨q, ⟨q2, q3, q4, q5⟩, if_neg q5⟩
  · exact Or.inl ⟨q, if_neg q⟩
theorem frK_r {k : Nat} {F : Nat → Nat → Nat → Nat → TK → RsT α} {s : α} (hk : isStp k) (w : TkW B L t) (h : frK B L n nm k t F = .inr s) : ∃ c x1 x2 x5 t', enV n c x1 x2 x5 ∧ TkW B L t' ∧ t.b ≤ t'.b ∧ ((c = 12 ∨ 1100 ≤ c) → k = 11 ∨ k = 16) ∧ F c x1 x2 x5 t' = .inr s := by
  unfold isStp at hk
  have n1 := tk_nx w
  rcases frK_cases B L n k nm t F with ⟨a1, a2⟩ | ⟨a1, v, a2, a3, a4, a5⟩ | ⟨a1, a2, a3⟩
  · rw [a2] at h
    obtain ⟨c, x1, x2, x5, t', ⟨b1, b2, b3, b4⟩, b5⟩ := fres_r (Or.inl hk) w h
    exact ⟨c, x1, x2, x5, t', b1, b2, b3, fun q => by have := b4 q; omega, b5⟩
  · rw [a5] at h
    obtain ⟨c, x1, x2, x5, t', ⟨b1, b2, b3, b4⟩, b5⟩ := fres_r (Or.inr ⟨a2, a3⟩) n1.1 h
    exact ⟨c, x1, x2, x5, t', b1, b2, by omega, fun q => Or.inl a1, b5⟩
  · rw [a3] at h
    cases h
theorem frK_l {k : Nat} {F : Nat → Nat → Nat → Nat → TK → RsT α} {f : Nat × Nat} (hk : isStp k) (w : TkW B L t) (h : frK B L n nm k t F = .inl f) (hF : ∀ c x1 x2 x5 t', TkW B L t' → F c x1 x2 x5 t' = .inl f → okF L f) : okF L f := by
  rcases frK_cases B L n k nm t F with ⟨a1, a2⟩ | ⟨a1, v, a2, a3, a4, a5⟩ | ⟨a1, a2, a3⟩
  · rw [a2] at h
    exact fres_l (Or.inl hk) w h hF
  · rw [a5] at h
    exact fres_l (Or.inr ⟨a2, a3⟩) (tk_nx w).1 h hF
  · rw [a3] at h
    rw [← Sum.inl.inj h]
    exact blF_ok (by decide) (by decide) w
end FIN
section FIS
variable {B : Nat → Nat} {L n : Nat} {nm : Nat → List Nat} {s s' : FpS}
theorem fstep_r (h : fstep B L n nm s = .inr s') (hB : FpB n s) (w : TkW B L s.t) : FpB n s' ∧ s.t.e ≤ s'.t.b ∧ TkW B L s'.t := by
  have n0 := tkF_ok (B := B) w.2.1
  unfold fstep at h
  split at h
  · cases h
  · split at h
    · split at h
      · cases h
      · have h := seK_r h
        have h := Sum.inr.inj h
        subst h
        have n1 := tkF_ok (B := B) n0.1.2.1
        have := n0.1.1
        exact ⟨hB.clo (by omega), (show s.t.e ≤ (tkF B L (tkF B L s.t.e).e).b by omega), n1.1⟩
    · unfold fbody at h
      split at h
      · rename_i hk
        split at h
        · cases h
        · rename_i h30
          split at h
          · cases h
          · rename_i h3
            obtain ⟨c, x1, x2, x5, t', b1, b2, b3, b4, b5⟩ := frK_r hk n0.1 h
            have h := seK_r b5
            have h := Sum.inr.inj h
            subst h
            have n1 := tkF_ok (B := B) b2.2.1
            have := b2.1
            have m2 := hB.2.1
            have m1 := hB.1
            refine ⟨hB.add b1 (by omega) (fun q => ?_), (show s.t.e ≤ (tkF B L t'.e).b by omega), n1.1⟩
            have q2 := b4 q
            have : ¬ s.D = 3 := fun y => h3 ⟨q2, y⟩
            omega
      · cases h
theorem fstep_l {f : Nat × Nat} (h : fstep B L n nm s = .inl f) (w : TkW B L s.t) : okF L f := by
  have n0 := (tkF_ok (B := B) w.2.1).1
  have bl : ∀ k (t : TK), 1 ≤ k → k ≤ 7 → TkW B L t → (.inl (blF k t) : RsT FpS) = .inl f → okF L f := fun k t h1 h2 w e => by
    rw [← Sum.inl.inj e]; exact blF_ok h1 h2 w
  unfold fstep at h
  split at h
  · exact bl 2 _ (by decide) (by decide) w h
  · split at h
    · split at h
      · exact bl 2 _ (by decide) (by decide) w h
      · exact seK_l n0 h (fun h => by cases h)
    · unfold fbody at h
      split at h
      · rename_i hk
        split at h
        · exact bl 6 _ (by decide) (by decide) w h
        · split at h
          · exact bl 7 _ (by decide) (by decide) w h
          · exact frK_l hk n0 h (fun c x1 x2 x5 t' w' h => seK_l w' h (fun h => by cases h))
      · exact bl 2 _ (by decide) (by decide) w h
theorem fall_0 {f : Nat} (h : s.t.k = 0) : fall B L n nm f s = fend s := by
  cases f with
  | zero => rfl
  | succ f =>
    unfold fall
    rw [if_pos h]
theorem fend_l {f : Nat × Nat} (h : fend s = .inl f) (w : TkW B L s.t) : okF L f := by
  unfold fend at h
  split at h
  · cases h
  · rw [← Sum.inl.inj h]; exact blF_ok (by decide) (by decide) w
theorem fend_r (h : fend s = .inr s') : s' = s ∧ s.D = 0 := by
  unfold fend at h
  split at h
  · rename_i q
    exact ⟨(Sum.inr.inj h).symm, q⟩
  · cases h
theorem fall_l {fl : Nat × Nat} : ∀ f (s : FpS), FpB n s → TkW B L s.t → fall B L n nm f s = .inl fl → okF L fl := by
  intro f
  induction f with
  | zero => intro s _ w h; exact fend_l h w
  | succ f ih =>
    intro s hB w h
    unfold fall at h
    split at h
    · exact fend_l h w
    · split at h
      · rename_i e
        rw [← Sum.inl.inj h]
        exact fstep_l e w
      · rename_i e
        obtain ⟨r1, r2, r3⟩ := fstep_r e hB w
        exact ih _ r1 r3 h
theorem fall_r : ∀ f (s s' : FpS), FpB n s → TkW B L s.t → fall B L n nm f s = .inr s' → FpB n s' ∧ s'.D = 0 := by
  intro f
  induction f with
  | zero =>
    intro s s' hB _ h
    obtain ⟨e1, e2⟩ := fend_r h
    rw [e1]; exact ⟨hB, e2⟩
  | succ f ih =>
    intro s s' hB w h
    unfold fall at h
    split at h
    · obtain ⟨e1, e2⟩ := fend_r h
      rw [e1]; exact ⟨hB, e2⟩
    · split at h
      · cases h
      · rename_i e
        obtain ⟨r1, r2, r3⟩ := fstep_r e hB w
        exact ih _ _ r1 r3 h
end FIS
/-- how it begins -/
def fs0 (B : Nat → Nat) (L : Nat) : FpS := (tkF B L 0, 0, fun _ => 0, fun _ => 0, fun _ => 0, fun _ => 0, fun _ => 0, 0, fun _ => 0)
theorem fs0_B (B : Nat → Nat) (L n : Nat) : FpB n (fs0 B L) := ⟨Nat.zero_le _, Nat.zero_le _, Nat.le_refl _, fun e he => absurd he (Nat.not_lt_zero e), fun e he => absurd he (Nat.not_lt_zero e), fun e he => absurd he (Nat.not_lt_zero e), fun e he => absurd he (Nat.not_lt_zero e), fun i j _ hj => absurd hj (Nat.not_lt_zero j), fun e e' he => absurd he (Nat.not_lt_zero e), fun a b c d hd => absurd hd (Nat.not_lt_zero d)⟩
