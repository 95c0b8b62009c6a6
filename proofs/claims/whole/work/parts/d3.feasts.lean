/-! feasts as a text: the class takes the rest of a step -/
section FRE
variable {α : Type} {B : Nat → Nat} {L n : Nat} {nm : Nat → List Nat} {t : TK} {F : Nat → Nat → Nat → Nat → TK → RsT α}
theorem fres_4 : fres B L n nm 4 t F = nuK B L t 0 (gpN n) fun g t2 => if rwT B t2 = some 5 then F 3 g 1 0 (tkF B L t2.e) else if rwT B t2 = some 6 then F 3 g 0 0 (tkF B L t2.e) else .inl (blF 2 t2) := rfl
theorem fres_8 : fres B L n nm 8 t F = nuK B L t 1 10 fun v t2 => F 8 v 0 0 t2 := rfl
theorem fres_9 : fres B L n nm 9 t F = naK B L n nm t fun d t2 => nuK B L t2 0 6 fun c t3 => F 9 d c 0 t3 := rfl
theorem fres_16 : fres B L n nm 16 t F = nuK B L t 1 100 fun v t2 => F 12 v 0 0 t2 := rfl
theorem fres_12 : fres B L n nm 12 t F = naK B L n nm t fun d t2 => F 1115 d 0 0 t2 := rfl
theorem fres_13 : fres B L n nm 13 t F = naK B L n nm t fun d t2 => nuK B L t2 0 n fun p t3 => F 1116 d p 0 t3 := rfl
theorem fres_14 : fres B L n nm 14 t F = nuK B L t 0 (gpN n) fun g t2 => nuK B L t2 0 7 fun c t3 => F 1117 g c 0 t3 := rfl
theorem fres_15 : fres B L n nm 15 t F = if t.k = 3 ∧ ¬ B t.b = 59 then nuK B L (tkF B L t.e) 0 41 fun v t3 => F 1118 0 v (B t.b) t3 else .inl (blF 2 t) := rfl
theorem fres_11 : fres B L n nm 11 t F = .inl (blF 2 t) := rfl
theorem fres_7 : fres B L n nm 7 t F = F 7 0 0 0 t := rfl
theorem fres_10 : fres B L n nm 10 t F = F 10 0 0 0 t := rfl
theorem fres_18 : fres B L n nm 18 t F = F 14 0 0 0 t := rfl
end FRE
/-- what a form leaves -/
def enF (form c x1 x2 x5 : Nat) (fs sd : Int32) : Prop := ∀ kd ts : Int32, (¬ (12 ≤ form ∧ form ≤ 15) → kd = nI form) → (12 ≤ form ∧ form ≤ 15 → kd = 11 ∧ ts = nI form) → enC c x1 x2 x5 kd ts fs sd
theorem sign_in {B : Nat → Nat} {L : Nat} {t : TK} (w : TkW B L t) (q : t.k = 3 ∧ ¬ B t.b = 59) : B t.b = 60 ∨ B t.b = 61 ∨ B t.b = 62 := by
  have := w.2.2.2.2.2.2.1 q.1
  omega
section FTR
variable {l : Launch} {d b L p n form : Nat} {B : Nat → Nat} {S : aw_S} {t : TK} {nm : Nat → List Nat} {α : Type}
theorem FcS.fr {R R' : Nat → Nat → Option Nat} (h : FcS R b) (e : R' = R) : FcS R' b := by rw [e]; exact h
theorem sp_takeRest {P : Int32 → aw_S → Prop} (hf : isStp form ∨ (12 ≤ form ∧ form ≤ 15)) (hp : p < 30) (hn : n ≤ 7) (hb : b = 11 ∨ b = 26) (hR : FcS S.2.2 b) (h0 : S.1 b 0 = nI n) (hnm : ∀ d, d < n → S.2.1 (b + 1) d = lN (p5 (nm d)) ∧ okW (nm d)) (h : TcG S B L t)
    (kf : ∀ f, (∀ F : Nat → Nat → Nat → Nat → TK → RsT α, fres B L n nm form t F = .inl f) → ∀ S', FrR p S S' → FtC S' f → P 0 S')
    (ks : ∀ c x1 x2 x5 t', (∀ F : Nat → Nat → Nat → Nat → TK → RsT α, fres B L n nm form t F = F c x1 x2 x5 t') → ∀ S', FrR p S S' → TcG S' B L t' → enF form c x1 x2 x5 (S'.1 90 p) (S'.1 91 p) → P 1 S') : Sp l m_Re_takeRest (d + 5) 0 0 [.ref 93, .int (nI p), .int (nI form)] sh0 S (gI sh0 P) := by
  unfold isStp at hf
  have hg := gp_le n
  have f18 : form ≤ 18 := by omega
  have is : ∀ {c : Nat}, c < 100 → nI form = nI c → form = c := fun hc z => (nI_inj (by omega) (by omega)).mp z
  have r0 := FrR.refl p S
  have gs : sh0[b]? = some (0, 2) := hR.2.2.2.2.2.sa
  refine e_Re_takeRest rfl ⟨fun z => ?_, fun z => ?_, fun z => ?_, fun z => ?_, fun z => ?_, fun z => ?_, fun z => ?_, fun z => ?_, fun z => ?_, fun z => ?_, fun z => ?_, fun z => ?_, fun z => ?_, fun z => ?_⟩
  · rw [nI_toInt (by omega)] at z
    have e : form = 18 := by omega
    subst e
    exact ks 14 0 0 0 t (fun F => fres_18) S r0 h (fun kd ts k1 k2 => by unfold enC; rw [k1 (by omega)]; exact Or.inr (Or.inr (Or.inr (Or.inr (Or.inr (Or.inl ⟨rfl, rfl⟩))))))
  · have e := is (c := 4) (by omega) z
    subst e
    refine ⟨b, hR.2.1, gs, sp_Gr_gaps gs hn h0 (sp_takeFirst (lo := 0) (hi := gpN n) (α := α) rfl (by omega) (by omega) hp hR h (fun f hf S1 F T => ⟨fun _ => kf f (fun F => by rw [fres_4]; exact hf _) S1 (F.R (by omega)) T, fun y => absurd rfl y⟩) (fun v v1 v2 hv S1 F E T => ⟨fun y => absurd y (by decide), fun _ => ?_⟩))⟩
    refine sp_takeHow hp (hR.fr F.2.2) T (fun q1 q2 S2 F2 T2 => ⟨fun _ => kf (blF 2 (tkF B L t.e)) (fun F => by rw [fres_4, hv, if_neg q1, if_neg q2]) S2 ((F.R (by omega)).trans (F2.R (by omega))) T2, fun y => absurd rfl y⟩) (fun o ho S2 F2 E2 T2 => ⟨fun y => absurd y (by decide), fun _ => ks 3 v o 0 _ (fun F => ?_) S2 ((F.R (by omega)).trans (F2.R (by omega))) T2 (fun kd ts k1 k2 => ?_)⟩)
    · rw [fres_4, hv]
      rcases ho with ⟨a1, a2⟩ | ⟨a1, a2, a3⟩
      · rw [if_pos a1, a2]
      · rw [if_neg a1, if_pos a2, a3]
    · unfold enC
      rw [k1 (by omega)]
      exact Or.inl ⟨rfl, rfl, by rw [F2.1 90 p (by omega)]; exact E, E2⟩
  · have e := is (c := 5) (by omega) z
    omega
  · have e := is (c := 6) (by omega) z
    omega
  · have e := is (c := 7) (by omega) z
    subst e
    exact ks 7 0 0 0 t (fun F => fres_7) S r0 h (fun kd ts k1 k2 => by unfold enC; rw [k1 (by omega)]; exact Or.inr (Or.inl ⟨rfl, rfl⟩))
  · have e := is (c := 8) (by omega) z
    subst e
    refine sp_takeFirst (lo := 1) (hi := 10) (α := α) (by decide) (by omega) (by omega) hp hR h (fun f hf S1 F T => ⟨Or.inl rfl, kf f (fun F => by rw [fres_8]; exact hf _) S1 (F.R (by omega)) T⟩) (fun v v1 v2 hv S1 F E T => ⟨Or.inr rfl, ks 8 v 0 0 _ (fun F => by rw [fres_8, hv]) S1 (F.R (by omega)) T (fun kd ts k1 k2 => ?_)⟩)
    unfold enC
    rw [k1 (by omega)]
    exact Or.inr (Or.inr (Or.inl ⟨rfl, rfl, E⟩))
  · have e := is (c := 9) (by omega) z
    subst e
    refine sp_takeKnown (α := α) hp hn hR h0 hnm h (fun f hf S1 F T => ⟨fun _ => kf f (fun F => by rw [fres_9]; exact hf _) S1 (F.R (by omega)) T, fun y => absurd rfl y⟩) (fun v v1 hv S1 F E T => ⟨fun y => absurd y (by decide), fun _ => ?_⟩)
    refine sp_takeSecond (lo := 0) (hi := 6) (α := α) (by decide) (by omega) (by omega) hp (hR.fr F.2.2) T (fun f hf S2 F2 T2 => ⟨fun _ => kf f (fun F => by rw [fres_9, hv]; exact hf _) S2 ((F.R (by omega)).trans (F2.R (by omega))) T2, fun y => absurd rfl y⟩) (fun o o1 o2 ho S2 F2 E2 T2 => ⟨fun y => absurd y (by decide), fun _ => ks 9 v o 0 _ (fun F => by rw [fres_9, hv, ho]) S2 ((F.R (by omega)).trans (F2.R (by omega))) T2 (fun kd ts k1 k2 => ?_)⟩)
    unfold enC
    rw [k1 (by omega)]
    exact Or.inr (Or.inr (Or.inr (Or.inl ⟨rfl, rfl, by rw [F2.1 90 p (by omega)]; exact E, E2⟩)))
  · have e := is (c := 10) (by omega) z
    subst e
    exact ks 10 0 0 0 t (fun F => fres_10) S r0 h (fun kd ts k1 k2 => by unfold enC; rw [k1 (by omega)]; exact Or.inr (Or.inr (Or.inr (Or.inr (Or.inl ⟨rfl, rfl⟩)))))
  · have e := is (c := 11) (by omega) z
    subst e
    exact ⟨94, hR.1, rfl, sp_blame (k0 := 2) h (fun S' F T => ⟨Or.inl rfl, kf (blF 2 t) (fun F => fres_11) S' (F.C.R (c := 90) (by omega)) T⟩)⟩
  · have e := is (c := 12) (by omega) z
    subst e
    refine sp_takeKnown (α := α) hp hn hR h0 hnm h (fun f hf S1 F T => ⟨Or.inl rfl, kf f (fun F => by rw [fres_12]; exact hf _) S1 (F.R (by omega)) T⟩) (fun v v1 hv S1 F E T => ⟨Or.inr rfl, ks 1115 v 0 0 _ (fun F => by rw [fres_12, hv]) S1 (F.R (by omega)) T (fun kd ts k1 k2 => ?_)⟩)
    obtain ⟨k3, k4⟩ := k2 (by omega)
    exact Or.inr (Or.inr (Or.inr (Or.inr (Or.inr (Or.inr (Or.inr ⟨k3, Or.inl ⟨rfl, k4, E⟩⟩))))))
  · have e := is (c := 13) (by omega) z
    subst e
    refine sp_takeKnown (α := α) hp hn hR h0 hnm h (fun f hf S1 F T => ⟨fun _ => kf f (fun F => by rw [fres_13]; exact hf _) S1 (F.R (by omega)) T, fun y => absurd rfl y⟩) (fun v v1 hv S1 F E T => ⟨fun y => absurd y (by decide), fun _ => ⟨b, by rw [F.2.2]; exact hR.2.1, gs, ?_⟩⟩)
    have e0 : S1.1 b 0 = nI n := by rw [F.1 b 0 (by omega)]; exact h0
    rw [e0]
    refine sp_takeSecond (lo := 0) (hi := n) (α := α) rfl (by omega) (by omega) hp (hR.fr F.2.2) T (fun f hf S2 F2 T2 => ⟨fun _ => kf f (fun F => by rw [fres_13, hv]; exact hf _) S2 ((F.R (by omega)).trans (F2.R (by omega))) T2, fun y => absurd rfl y⟩) (fun o o1 o2 ho S2 F2 E2 T2 => ⟨fun y => absurd y (by decide), fun _ => ks 1116 v o 0 _ (fun F => by rw [fres_13, hv, ho]) S2 ((F.R (by omega)).trans (F2.R (by omega))) T2 (fun kd ts k1 k2 => ?_)⟩)
    obtain ⟨k3, k4⟩ := k2 (by omega)
    exact Or.inr (Or.inr (Or.inr (Or.inr (Or.inr (Or.inr (Or.inr ⟨k3, Or.inr (Or.inl ⟨rfl, k4, by rw [F2.1 90 p (by omega)]; exact E, E2⟩)⟩))))))
  · have e := is (c := 14) (by omega) z
    subst e
    refine ⟨b, hR.2.1, gs, sp_Gr_gaps gs hn h0 (sp_takeFirst (lo := 0) (hi := gpN n) (α := α) rfl (by omega) (by omega) hp hR h (fun f hf S1 F T => ⟨fun _ => kf f (fun F => by rw [fres_14]; exact hf _) S1 (F.R (by omega)) T, fun y => absurd rfl y⟩) (fun v v1 v2 hv S1 F E T => ⟨fun y => absurd y (by decide), fun _ => ?_⟩))⟩
    refine sp_takeSecond (lo := 0) (hi := 7) (α := α) (by decide) (by omega) (by omega) hp (hR.fr F.2.2) T (fun f hf S2 F2 T2 => ⟨fun _ => kf f (fun F => by rw [fres_14, hv]; exact hf _) S2 ((F.R (by omega)).trans (F2.R (by omega))) T2, fun y => absurd rfl y⟩) (fun o o1 o2 ho S2 F2 E2 T2 => ⟨fun y => absurd y (by decide), fun _ => ks 1117 v o 0 _ (fun F => by rw [fres_14, hv, ho]) S2 ((F.R (by omega)).trans (F2.R (by omega))) T2 (fun kd ts k1 k2 => ?_)⟩)
    obtain ⟨k3, k4⟩ := k2 (by omega)
    exact Or.inr (Or.inr (Or.inr (Or.inr (Or.inr (Or.inr (Or.inr ⟨k3, Or.inr (Or.inr (Or.inl ⟨rfl, k4, by rw [F2.1 90 p (by omega)]; exact E, E2⟩))⟩))))))
  · have e := is (c := 15) (by omega) z
    subst e
    refine sp_takeCompares hp hR h (fun q S1 F T => ⟨fun _ => kf (blF 2 t) (fun F => by rw [fres_15, if_neg q]) S1 (F.R (by omega)) T, fun y => absurd rfl y⟩) (fun q S1 F E T => ⟨fun y => absurd y (by decide), fun _ => ?_⟩)
    refine sp_takeSecond (lo := 0) (hi := 41) (α := α) (by decide) (by omega) (by omega) hp (hR.fr F.2.2) T (fun f hf S2 F2 T2 => ⟨fun _ => kf f (fun F => by rw [fres_15, if_pos q]; exact hf _) S2 ((F.R (by omega)).trans (F2.R (by omega))) T2, fun y => absurd rfl y⟩) (fun o o1 o2 ho S2 F2 E2 T2 => ⟨fun y => absurd y (by decide), fun _ => ks 1118 0 o (B t.b) _ (fun F => by rw [fres_15, if_pos q, ho]) S2 ((F.R (by omega)).trans (F2.R (by omega))) T2 (fun kd ts k1 k2 => ?_)⟩)
    obtain ⟨k3, k4⟩ := k2 (by omega)
    exact Or.inr (Or.inr (Or.inr (Or.inr (Or.inr (Or.inr (Or.inr ⟨k3, Or.inr (Or.inr (Or.inr ⟨rfl, k4, by rw [F2.1 90 p (by omega)]; exact E, E2⟩))⟩))))))
  · have e := is (c := 16) (by omega) z
    subst e
    refine sp_takeFirst (lo := 1) (hi := 100) (α := α) (by decide) (by omega) (by omega) hp hR h (fun f hf S1 F T => ⟨Or.inl rfl, kf f (fun F => by rw [fres_16]; exact hf _) S1 (F.R (by omega)) T⟩) (fun v v1 v2 hv S1 F E T => ⟨Or.inr rfl, ks 12 v 0 0 _ (fun F => by rw [fres_16, hv]) S1 (F.R (by omega)) T (fun kd ts k1 k2 => ?_)⟩)
    unfold enC
    rw [k1 (by omega)]
    exact Or.inr (Or.inr (Or.inr (Or.inr (Or.inr (Or.inr (Or.inl ⟨rfl, rfl, E⟩))))))
theorem sp_testForm {P : Int32 → aw_S → Prop} (hp : p < 30) (hR : FcS S.2.2 b) (h : TcG S B L t)
    (k0 : (¬ rwT B t = some 12 ∧ ¬ rwT B t = some 13 ∧ ¬ rwT B t = some 14 ∧ ¬ rwT B t = some 15) → P 11 S)
    (k1 : ∀ w, 12 ≤ w → w ≤ 15 → rwT B t = some w → ∀ S', FrC 89 p S S' → S'.1 89 p = nI w → TcG S' B L (tkF B L t.e) → P (nI w) S') : Sp l m_Re_testForm (d + 4) 0 0 [.ref 93, .int (nI p)] sh0 S (gI sh0 P) := by
  obtain ⟨-, c, w, -, -, r⟩ := id h
  have e12 := oI_rw (B := B) (t := t) (w := 12) (by omega)
  have e13 := oI_rw (B := B) (t := t) (w := 13) (by omega)
  have e14 := oI_rw (B := B) (t := t) (w := 14) (by omega)
  have e15 := oI_rw (B := B) (t := t) (w := 15) (by omega)
  have go : ∀ w, 12 ≤ w → w ≤ 15 → rwT B t = some w → ∃ r6, S.2.2 93 4 = some r6 ∧ sh0[r6]? = some (0, 4) ∧ ∃ r8, S.2.2 r6 3 = some r8 ∧ ∃ n10, sh0[r8]? = some (3, n10) ∧ vp_in (nI p) n10 ∧ ∃ r12, (aw_uI S r8 (nI p).toNatClampNeg (oI (rwT B t))).2.2 93 2 = some r12 ∧ sh0[r12]? = some (0, 6) ∧ Sp l m_To_advance (d + 3) 0 0 [.ref r12] sh0 (aw_uI S r8 (nI p).toNatClampNeg (oI (rwT B t))) (gV sh0 (fun S14 => P (oI (rwT B t)) S14)) := by
    intro w w1 w2 hw
    refine ⟨87, hR.2.2.1, rfl, 89, hR.2.2.2.1.2.1.2.1, 30, rfl, vp_in_nI hp (by omega), 94, hR.1, rfl, ?_⟩
    rw [nI_clamp (by omega), hw]
    exact sp_advC (h.cell _ _ (by decide)) (fun S' F T => k1 w w1 w2 hw S' (((FrU.refl S).thenC _).thenU F) (by rw [F.1 89 p (by decide), uI_at, if_pos rfl, if_pos rfl]; rfl) T)
  refine e_Re_testForm rfl ⟨94, hR.1, rfl, sp_reserved r w c ⟨fun z => go 12 (by omega) (by omega) (e12.mp z), fun z => ⟨fun z2 => go 13 (by omega) (by omega) (e13.mp z2), fun z2 => ⟨fun z3 => go 14 (by omega) (by omega) (e14.mp z3), fun z3 => ⟨fun z4 => go 15 (by omega) (by omega) (e15.mp z4), fun z4 => k0 ⟨fun y => z (e12.mpr y), fun y => z2 (e13.mpr y), fun y => z3 (e14.mpr y), fun y => z4 (e15.mpr y)⟩⟩⟩⟩⟩⟩
end FTR
