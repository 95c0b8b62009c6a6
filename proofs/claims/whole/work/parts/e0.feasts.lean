/-! feasts as a text: which words open -/
section FKO
variable {B : Nat → Nat} {L n : Nat} {nm : Nat → List Nat} {t t' : TK} {k c x1 x2 x5 : Nat}
/-- which code a form leaves -/
def cdF (form : Nat) : Nat := if form = 4 then 3 else if form = 16 then 12 else if form = 18 then 14 else if 12 ≤ form ∧ form ≤ 15 then 1103 + form else form
theorem fres_c {form : Nat} {F : Nat → Nat → Nat → Nat → TK → RsT FpS} {s : FpS} (hf : isStp form ∨ (12 ≤ form ∧ form ≤ 15)) (h : fres B L n nm form t F = .inr s) : ∃ x1 x2 x5 t', F (cdF form) x1 x2 x5 t' = .inr s := by
  unfold isStp at hf
  have h2 : form = 4 ∨ form = 7 ∨ form = 8 ∨ form = 9 ∨ form = 10 ∨ form = 11 ∨ form = 16 ∨ form = 18 ∨ form = 12 ∨ form = 13 ∨ form = 14 ∨ form = 15 := by omega
  rcases h2 with e | e | e | e | e | e | e | e | e | e | e | e <;> subst e
  · rw [fres_4] at h
    obtain ⟨v, v1, v2, h⟩ := nuK_r h
    split at h
    · exact ⟨_, _, _, _, h⟩
    · split at h
      · exact ⟨_, _, _, _, h⟩
      · cases h
  · rw [fres_7] at h
    exact ⟨_, _, _, _, h⟩
  · rw [fres_8] at h
    obtain ⟨v, v1, v2, h⟩ := nuK_r h
    exact ⟨_, _, _, _, h⟩
  · rw [fres_9] at h
    obtain ⟨v, v1, h⟩ := naK_r h
    obtain ⟨u, u1, u2, h⟩ := nuK_r h
    exact ⟨_, _, _, _, h⟩
  · rw [fres_10] at h
    exact ⟨_, _, _, _, h⟩
  · rw [fres_11] at h
    cases h
  · rw [fres_16] at h
    obtain ⟨v, v1, v2, h⟩ := nuK_r h
    exact ⟨_, _, _, _, h⟩
  · rw [fres_18] at h
    exact ⟨_, _, _, _, h⟩
  · rw [fres_12] at h
    obtain ⟨v, v1, h⟩ := naK_r h
    exact ⟨_, _, _, _, h⟩
  · rw [fres_13] at h
    obtain ⟨v, v1, h⟩ := naK_r h
    obtain ⟨u, u1, u2, h⟩ := nuK_r h
    exact ⟨_, _, _, _, h⟩
  · rw [fres_14] at h
    obtain ⟨v, v1, v2, h⟩ := nuK_r h
    obtain ⟨u, u1, u2, h⟩ := nuK_r h
    exact ⟨_, _, _, _, h⟩
  · rw [fres_15] at h
    split at h
    · obtain ⟨u, u1, u2, h⟩ := nuK_r h
      exact ⟨_, _, _, _, h⟩
    · cases h
theorem frK_o (hk : isStp k) (h : ∀ F : Nat → Nat → Nat → Nat → TK → RsT FpS, frK B L n nm k t F = F c x1 x2 x5 t') : (c = 12 ∨ 1100 ≤ c) ↔ (k = 11 ∨ k = 16) := by
  have h' := h (fun c x1 x2 x5 t' => .inr ((t', c, fun _ => x1, fun _ => x2, fun _ => x5, fun _ => 0, fun _ => 0, 0, fun _ => 0) : FpS))
  unfold isStp at hk
  rcases frK_cases B L n k nm t (fun c x1 x2 x5 t' => (.inr ((t', c, fun _ => x1, fun _ => x2, fun _ => x5, fun _ => 0, fun _ => 0, 0, fun _ => 0) : FpS) : RsT FpS)) with ⟨a1, a2⟩ | ⟨a1, v, a2, a3, a4, a5⟩ | ⟨a1, a2, a3⟩
  · rw [a2] at h'
    obtain ⟨y1, y2, y5, u, e⟩ := fres_c (Or.inl hk) h'
    have e2 : cdF k = c := congrArg (fun s : FpS => s.2.1) (Sum.inr.inj e)
    rcases hk with q | q | q | q | q | q | q | q <;> subst q
    · have e2 : 3 = c := e2
      omega
    · have e2 : 7 = c := e2
      omega
    · have e2 : 8 = c := e2
      omega
    · have e2 : 9 = c := e2
      omega
    · have e2 : 10 = c := e2
      omega
    · exact absurd rfl a1
    · have e2 : 12 = c := e2
      omega
    · have e2 : 14 = c := e2
      omega
  · rw [a5] at h'
    obtain ⟨y1, y2, y5, u, e⟩ := fres_c (Or.inr ⟨a2, a3⟩) h'
    have e2 : cdF v = c := congrArg (fun s : FpS => s.2.1) (Sum.inr.inj e)
    have q : v = 12 ∨ v = 13 ∨ v = 14 ∨ v = 15 := by omega
    rcases q with q | q | q | q <;> subst q
    · have e2 : 1115 = c := e2
      omega
    · have e2 : 1116 = c := e2
      omega
    · have e2 : 1117 = c := e2
      omega
    · have e2 : 1118 = c := e2
      omega
  · rw [a3] at h'
    cases h'
end FKO
