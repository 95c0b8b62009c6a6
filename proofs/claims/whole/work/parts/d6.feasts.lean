/-! feasts as a text: the class takes a step, and reads all -/
theorem enC_k {k c x1 x2 x5 : Nat} {ts fs sd : Int32} (hk : k < 100) (h : enC c x1 x2 x5 (nI k) ts fs sd) : (c = 3 ∧ k = 4) ∨ (c = 7 ∧ k = 7) ∨ (c = 8 ∧ k = 8) ∨ (c = 9 ∧ k = 9) ∨ (c = 10 ∧ k = 10) ∨ (c = 14 ∧ k = 18) ∨ (c = 12 ∧ k = 16) ∨ (k = 11 ∧ 1115 ≤ c) := by
  have is : ∀ {m : Nat}, m < 100 → nI k = nI m → k = m := fun hm z => (nI_inj (by omega) (by omega)).mp z
  rcases h with ⟨a, b, -⟩ | ⟨a, b⟩ | ⟨a, b, -⟩ | ⟨a, b, -⟩ | ⟨a, b⟩ | ⟨a, b⟩ | ⟨a, b, -⟩ | ⟨b, h⟩
  · have := is (m := 4) (by omega) b; omega
  · have := is (m := 7) (by omega) b; omega
  · have := is (m := 8) (by omega) b; omega
  · have := is (m := 9) (by omega) b; omega
  · have := is (m := 10) (by omega) b; omega
  · have := is (m := 18) (by omega) b; omega
  · have := is (m := 16) (by omega) b; omega
  · have := is (m := 11) (by omega) b
    rcases h with ⟨a, -⟩ | ⟨a, -⟩ | ⟨a, -⟩ | ⟨a, -⟩ <;> omega
theorem fres_en {B : Nat → Nat} {L n form c x1 x2 x5 : Nat} {nm : Nat → List Nat} {t t' : TK} (hf : isStp form ∨ (12 ≤ form ∧ form ≤ 15)) (w : TkW B L t) (h : ∀ F : Nat → Nat → Nat → Nat → TK → RsT FpS, fres B L n nm form t F = F c x1 x2 x5 t') : frOk B L n form t c x1 x2 x5 t' := by
  obtain ⟨c', y1, y2, y5, u, h1, h2⟩ := fres_r hf w (h (fun c x1 x2 x5 t' => .inr ((t', c, fun _ => x1, fun _ => x2, fun _ => x5, fun _ => 0, fun _ => 0, 0, fun _ => 0) : FpS)))
  have h2 := Sum.inr.inj h2
  have e1 : u = t' := congrArg (fun s : FpS => s.1) h2
  have e2 : c' = c := congrArg (fun s : FpS => s.2.1) h2
  have e3 : y1 = x1 := congrArg (fun s : FpS => s.2.2.1 0) h2
  have e4 : y2 = x2 := congrArg (fun s : FpS => s.2.2.2.1 0) h2
  have e5 : y5 = x5 := congrArg (fun s : FpS => s.2.2.2.2.1 0) h2
  rw [e1, e2, e3, e4, e5] at h1
  exact h1
section FSU
variable {l : Launch} {d b L n : Nat} {B : Nat → Nat} {S0 S : aw_S} {s : FpS} {nm : Nat → List Nat}
theorem sp_isStep {P : Int32 → aw_S → Prop} {t : TK} (k1 : ∀ k, rwT B t = some k → isStp k → P 1 S) (k0 : (∀ k, rwT B t = some k → ¬ isStp k) → P 0 S) : Sp l m_Re_isStep (d + 1) 0 0 [.int (oI (rwT B t))] sh0 S (gI sh0 P) := by
  have e : ∀ w, w < 100 → (oI (rwT B t) = nI w ↔ rwT B t = some w) := fun w hw => oI_rw (by omega)
  have is : ∀ w, w < 100 → isStp w → oI (rwT B t) = nI w → P 1 S := fun w hw hs z => k1 w ((e w hw).mp z) hs
  refine e_Re_isStep ⟨is 4 (by omega) (by unfold isStp; omega), fun z1 => ⟨is 7 (by omega) (by unfold isStp; omega), fun z2 => ⟨is 8 (by omega) (by unfold isStp; omega), fun z3 => ⟨is 9 (by omega) (by unfold isStp; omega), fun z4 => ⟨is 10 (by omega) (by unfold isStp; omega), fun z5 => ⟨is 11 (by omega) (by unfold isStp; omega), fun z6 => ⟨is 16 (by omega) (by unfold isStp; omega), fun z7 => ⟨fun z8 => k0 (fun k hk hs => ?_), is 18 (by omega) (by unfold isStp; omega)⟩⟩⟩⟩⟩⟩⟩⟩
  unfold isStp at hs
  have no : ∀ w, w < 100 → ¬ oI (rwT B t) = nI w → k ≠ w := fun w hw z y => z ((e w hw).mpr (by rw [hk, y]))
  have a1 := no 4 (by omega) z1
  have a2 := no 7 (by omega) z2
  have a3 := no 8 (by omega) z3
  have a4 := no 9 (by omega) z4
  have a5 := no 10 (by omega) z5
  have a6 := no 11 (by omega) z6
  have a7 := no 16 (by omega) z7
  have a8 := no 18 (by omega) z8
  omega
/-- the state behind a step's head -/
def HdP (S0 S H : aw_S) (B : Nat → Nat) (L : Nat) (s : FpS) (k : Nat) (t : TK) : Prop := FcF S0 H ∧ TcG H B L t ∧ (∀ c j, ¬ (c = 94 ∨ ((88 ≤ c ∧ c ≤ 92) ∧ j = ncN s.cd s.N) ∨ (c = 87 ∧ j = 1) ∨ (c = 96 ∧ j = s.D) ∨ (c = 93 ∧ j = 8)) → H.1 c j = S.1 c j) ∧ H.1 87 1 = nI (ncN s.cd s.N + 1) ∧ H.1 93 8 = nI (if k = 11 ∨ k = 16 then s.D + 1 else s.D) ∧ ((k = 11 ∨ k = 16) → H.1 96 s.D = nI (ncN s.cd s.N)) ∧ H.1 92 (ncN s.cd s.N) = nI (ncN s.cd s.N + 1) ∧ H.1 88 (ncN s.cd s.N) = nI k
theorem HdP.c {H H' : aw_S} {k c : Nat} {t t' : TK} (h : HdP S0 S H B L s k t) (F : FrC c (ncN s.cd s.N) H H') (hc : c = 89 ∨ c = 90 ∨ c = 91) (T : TcG H' B L t') : HdP S0 S H' B L s k t' := by
  obtain ⟨a1, a2, a3, a4, a5, a6, a7, a8⟩ := h
  exact ⟨a1.c F (by omega), T, fun k j q => (F.1 k j (by omega)).trans (a3 k j q), (F.1 _ _ (by omega)).trans a4, (F.1 _ _ (by omega)).trans a5, fun q => (F.1 _ _ (by omega)).trans (a6 q), (F.1 _ _ (by omega)).trans a7, (F.1 _ _ (by omega)).trans a8⟩
theorem HdP.r {H H' : aw_S} {k : Nat} {t t' : TK} (h : HdP S0 S H B L s k t) (F : FrR (ncN s.cd s.N) H H') (T : TcG H' B L t') : HdP S0 S H' B L s k t' := by
  obtain ⟨a1, a2, a3, a4, a5, a6, a7, a8⟩ := h
  exact ⟨a1.r F, T, fun k j q => (F.1 k j (by omega)).trans (a3 k j q), (F.1 _ _ (by omega)).trans a4, (F.1 _ _ (by omega)).trans a5, fun q => (F.1 _ _ (by omega)).trans (a6 q), (F.1 _ _ (by omega)).trans a7, (F.1 _ _ (by omega)).trans a8⟩
/-- the rest of a step -/
theorem st_177 {P : Int32 → aw_S → Prop} {H : aw_S} {k form : Nat} {t1 : TK} (hn : n ≤ 7) (hb : b = 11 ∨ b = 26) (hR : FcS S0.2.2 b) (h0 : S0.1 b 0 = nI n) (hnm : ∀ d, d < n → S0.2.1 (b + 1) d = lN (p5 (nm d)) ∧ okW (nm d)) (hB : FpB n s) (h : FcR S0 S B L s) (hk : isStp k) (h30 : ncN s.cd s.N < 30) (hH : HdP S0 S H B L s k t1) (hf : (k ≠ 11 ∧ form = k) ∨ (k = 11 ∧ 12 ≤ form ∧ form ≤ 15 ∧ H.1 89 (ncN s.cd s.N) = nI form) ∨ (k = 11 ∧ form = 11)) {r : RsT FpS} (hr : fres B L n nm form t1 (fun c x1 x2 x5 t2 => seK B L t2 fun t' => .inr (addS s t' c x1 x2 x5)) = r) (kk : ∀ x S', (x = 0 ∨ x = 1) → OutF S0 B L x S' r → P x S') : AW l m_Re_takeStep (d + 6) 0 0 (gI sh0 P) 0 0 177 [.ref 93, .null, .null, .int (nI (ncN s.cd s.N)), .int (nI form)] [] sh0 H := by
  obtain ⟨a1, a2, a3, a4, a5, a6, a7, a8⟩ := id hH
  have hf2 : isStp form ∨ (12 ≤ form ∧ form ≤ 15) := by
    unfold isStp at hk ⊢
    omega
  have hRH : FcS H.2.2 b := hR.fr a1.2.2
  refine s_Re_takeStep_177 rfl (sp_takeRest (α := FpS) (nm := nm) hf2 h30 hn hb hRH (by rw [a1.1 b 0 (by omega)]; exact h0) (fun d hd => by rw [a1.2.1 _ _ (by omega)]; exact hnm d hd) a2 (fun f hfr S1 F T => ⟨fun _ => kk 0 S1 (Or.inl rfl) ?_, fun y => absurd rfl y⟩) (fun c x1 x2 x5 t' hfr S1 F T E => ⟨fun y => absurd y (by decide), fun _ => ⟨94, by rw [F.2.2]; exact hRH.1, rfl, ?_⟩⟩))
  · rw [← hr, hfr]
    exact ⟨rfl, a1.r F, T⟩
  · obtain ⟨v1, v2, v3, v4⟩ := fres_en hf2 a2.2.2.1 hfr
    rw [hfr] at hr
    have g1 := hH.r F T
    have E2 : enC c x1 x2 x5 (nI k) (S1.1 89 (ncN s.cd s.N)) (S1.1 90 (ncN s.cd s.N)) (S1.1 91 (ncN s.cd s.N)) := by
      refine E _ _ (fun q => ?_) (fun q => ?_)
      · rcases hf with ⟨-, y⟩ | ⟨-, y⟩ | ⟨y1, y2⟩
        · rw [y]
        · omega
        · rw [y1, y2]
      · rcases hf with ⟨y1, y⟩ | ⟨y1, -, -, y2⟩ | ⟨y1, y2⟩
        · unfold isStp at hk
          omega
        · rw [F.1 89 _ (by omega), y1]
          exact ⟨rfl, y2⟩
        · omega
    have kc := enC_k (by unfold isStp at hk; omega) E2
    refine sp_semi (α := FpS) T (fun f hsf S3 F3 T3 => ⟨fun _ => kk 0 S3 (Or.inl rfl) ?_, fun y => absurd rfl y⟩) (fun hsf S3 F3 T3 => ⟨fun y => absurd y (by decide), fun _ => kk 1 S3 (Or.inr rfl) ?_⟩)
    · rw [← hr, hsf]
      exact ⟨rfl, (a1.r F).u F3, T3⟩
    · rw [← hr, hsf]
      obtain ⟨g1, g2, g3, g4, g5, g6, g7, g8⟩ := g1
      have iff : (c = 12 ∨ 1100 ≤ c) ↔ (k = 11 ∨ k = 16) := by omega
      refine ⟨rfl, FcR.add hB v1 h (g1.u F3) (fun k j q => (F3.1 k j (by omega)).trans (g3 k j q)) T3 ((F3.1 _ _ (by omega)).trans g4) ?_ (fun q => (F3.1 _ _ (by omega)).trans (g6 (iff.mp q))) ?_ ((F3.1 _ _ (by omega)).trans g7)⟩
      · rw [F3.1 _ _ (by omega), g5]
        by_cases q : c = 12 ∨ 1100 ≤ c
        · rw [if_pos q, if_pos (iff.mp q)]
        · rw [if_neg q, if_neg (fun y => q (iff.mpr y))]
      · rw [F3.1 88 _ (by omega), F3.1 89 _ (by omega), F3.1 90 _ (by omega), F3.1 91 _ (by omega), g8]
        exact E2
theorem st_head {P : Int32 → aw_S → Prop} {H : aw_S} {k : Nat} (hn : n ≤ 7) (hb : b = 11 ∨ b = 26) (hR : FcS S0.2.2 b) (h0 : S0.1 b 0 = nI n) (hnm : ∀ d, d < n → S0.2.1 (b + 1) d = lN (p5 (nm d)) ∧ okW (nm d)) (hB : FpB n s) (h : FcR S0 S B L s) (hk : isStp k) (h30 : ncN s.cd s.N < 30) (hH : HdP S0 S H B L s k s.t) {r : RsT FpS} (hr : frK B L n nm k (tkF B L s.t.e) (fun c x1 x2 x5 t2 => seK B L t2 fun t' => .inr (addS s t' c x1 x2 x5)) = r) (kk : ∀ x S', (x = 0 ∨ x = 1) → OutF S0 B L x S' r → P x S') : Sp l m_To_advance (d + 5) 0 0 [.ref 94] sh0 H (gV sh0 (fun S15 => ((¬ nI k = 11 → AW l m_Re_takeStep (d + 6) 0 0 (gI sh0 P) 0 0 177 [.ref 93, .null, .null, .int (nI (ncN s.cd s.N)), .int (nI k)] [] sh0 S15) ∧ (nI k = 11 → Sp l m_Re_testForm (d + 5) 0 0 [.ref 93, .int (nI (ncN s.cd s.N))] sh0 S15 (gI sh0 (fun x18 S17 => AW l m_Re_takeStep (d + 6) 0 0 (gI sh0 P) 0 0 177 [.ref 93, .null, .null, .int (nI (ncN s.cd s.N)), .int x18] [] sh0 S17)))))) := by
  have k18 : k ≤ 18 := by unfold isStp at hk; omega
  refine sp_advC hH.2.1 (fun S1 F T => ?_)
  have g1 : HdP S0 S S1 B L s k (tkF B L s.t.e) := hH.c (c := 89) F.C (by omega) T
  refine ⟨fun z => ?_, fun z => ?_⟩
  · have k11 : k ≠ 11 := fun y => z (by rw [y]; rfl)
    refine st_177 hn hb hR h0 hnm hB h hk h30 g1 (Or.inl ⟨k11, rfl⟩) ?_ kk
    rcases frK_cases B L n k nm (tkF B L s.t.e) (fun c x1 x2 x5 t2 => seK B L t2 fun t' => (.inr (addS s t' c x1 x2 x5) : RsT FpS)) with ⟨a1, a2⟩ | ⟨a1, -⟩ | ⟨a1, -⟩
    · rw [← a2]; exact hr
    · exact absurd a1 k11
    · exact absurd a1 k11
  · have k11 : k = 11 := (nI_inj (b := 11) (by omega) (by omega)).mp z
    refine sp_testForm h30 (hR.fr g1.1.2.2) T (fun q => ?_) (fun w w1 w2 hw S2 F2 E2 T2 => ?_)
    · refine st_177 (form := 11) hn hb hR h0 hnm hB h hk h30 g1 (Or.inr (Or.inr ⟨k11, rfl⟩)) ?_ kk
      rcases frK_cases B L n k nm (tkF B L s.t.e) (fun c x1 x2 x5 t2 => seK B L t2 fun t' => (.inr (addS s t' c x1 x2 x5) : RsT FpS)) with ⟨a1, a2⟩ | ⟨a1, w, w1, w2, w3, -⟩ | ⟨a1, a2, a3⟩
      · exact absurd k11 a1
      · obtain ⟨q1, q2, q3, q4⟩ := q
        have w4 : w = 12 ∨ w = 13 ∨ w = 14 ∨ w = 15 := by omega
        rcases w4 with e | e | e | e <;> rw [e] at w3
        · exact absurd w3 q1
        · exact absurd w3 q2
        · exact absurd w3 q3
        · exact absurd w3 q4
      · rw [fres_11, ← hr, a3]
    · refine st_177 hn hb hR h0 hnm hB h hk h30 (g1.c F2 (by omega) T2) (Or.inr (Or.inl ⟨k11, w1, w2, E2⟩)) ?_ kk
      rcases frK_cases B L n k nm (tkF B L s.t.e) (fun c x1 x2 x5 t2 => seK B L t2 fun t' => (.inr (addS s t' c x1 x2 x5) : RsT FpS)) with ⟨a1, a2⟩ | ⟨a1, v, v1, v2, v3, v4⟩ | ⟨a1, ⟨q1, q2, q3, q4⟩, a3⟩
      · exact absurd k11 a1
      · rw [hw] at v3
        have e := Option.some.inj v3
        rw [e, ← v4]; exact hr
      · have w4 : w = 12 ∨ w = 13 ∨ w = 14 ∨ w = 15 := by omega
        rcases w4 with e | e | e | e <;> rw [e] at hw
        · exact absurd hw q1
        · exact absurd hw q2
        · exact absurd hw q3
        · exact absurd hw q4
theorem sp_takeStep {P : Int32 → aw_S → Prop} (hn : n ≤ 7) (hb : b = 11 ∨ b = 26) (hR : FcS S0.2.2 b) (h0 : S0.1 b 0 = nI n) (hnm : ∀ d, d < n → S0.2.1 (b + 1) d = lN (p5 (nm d)) ∧ okW (nm d)) (hB : FpB n s) (h : FcR S0 S B L s) (h17 : ¬ rwT B s.t = some 17) (kk : ∀ x S', (x = 0 ∨ x = 1) → OutF S0 B L x S' (fstep B L n nm s) → P x S') : Sp l m_Re_takeStep (d + 6) 0 0 [.ref 93] sh0 S (gI sh0 P) := by
  obtain ⟨h1, h2, h3, h6, h7⟩ := id h
  obtain ⟨-, c, w, -, -, r⟩ := id h2
  have hRS : FcS S.2.2 b := hR.fr h1.2.2
  have b1 := hB.1
  have b2 := hB.2.1
  refine e_Re_takeStep rfl ⟨94, hRS.1, rfl, sp_reserved r w c (sp_isStep (fun k hk hs => ⟨fun _ => ?_, fun y => absurd y (by decide)⟩) (fun hs => ⟨fun y => absurd rfl y, fun _ => ⟨94, hRS.1, rfl, sp_blame (k0 := 2) h2 (fun S' F T => ⟨Or.inl rfl, kk 0 S' (Or.inl rfl) ?_⟩)⟩⟩))⟩
  · have e : fstep B L n nm s = fbody B L n nm s k := by
      unfold fstep
      rw [hk]
      show (if k = 17 then _ else _) = _
      rw [if_neg (fun y => h17 (by rw [hk, y]))]
    rw [e] at kk
    unfold fbody at kk
    have hs' : k = 4 ∨ k = 7 ∨ k = 8 ∨ k = 9 ∨ k = 10 ∨ k = 11 ∨ k = 16 ∨ k = 18 := hs
    rw [if_pos hs'] at kk
    have x4 : oI (rwT B s.t) = nI k := by rw [hk]; rfl
    rw [x4]
    refine ⟨87, hRS.2.2.1, rfl, ?_⟩
    rw [h3.2.1]
    refine ⟨fun z => ?_, fun z => ⟨94, hRS.1, rfl, sp_blame (k0 := 6) h2 (fun S' F T => ⟨Or.inl rfl, kk 0 S' (Or.inl rfl) ?_⟩)⟩⟩
    · have h30 : ncN s.cd s.N < 30 := (nI_ltI (b := 30) (by omega) (by omega)).mp z
      rw [if_neg (by omega)] at kk
      have v87 : (aw_uI (aw_uI S 88 (ncN s.cd s.N) (nI k)) 92 (ncN s.cd s.N) (nI (ncN s.cd s.N + 1))).1 87 1 = nI (ncN s.cd s.N) := by rw [uI_ne _ _ _ (by decide), uI_ne _ _ _ (by decide)]; exact h3.2.1
      have vp87 : vp_in (S.1 87 1) 30 := by rw [h3.2.1]; exact vp_in_nI h30 (by omega)
      have hd0 : FcF S0 (aw_uI (aw_uI (aw_uI S 88 (ncN s.cd s.N) (nI k)) 92 (ncN s.cd s.N) (nI (ncN s.cd s.N + 1))) 87 1 (nI (ncN s.cd s.N + 1))) := ((h1.uI _ (by omega)).uI _ (by omega)).uI _ (by omega)
      have hd1 : TcG (aw_uI (aw_uI (aw_uI S 88 (ncN s.cd s.N) (nI k)) 92 (ncN s.cd s.N) (nI (ncN s.cd s.N + 1))) 87 1 (nI (ncN s.cd s.N + 1))) B L s.t := ((h2.cell _ _ (by decide)).cell _ _ (by decide)).cell _ _ (by decide)
      have hd2 : ∀ c j, ¬ (((88 ≤ c ∧ c ≤ 92) ∧ j = ncN s.cd s.N) ∨ (c = 87 ∧ j = 1)) → (aw_uI (aw_uI (aw_uI S 88 (ncN s.cd s.N) (nI k)) 92 (ncN s.cd s.N) (nI (ncN s.cd s.N + 1))) 87 1 (nI (ncN s.cd s.N + 1))).1 c j = S.1 c j := fun c j q => by
        have a1 : ∀ (T : aw_S) (c' i : Nat) (v : Int32), ¬ (c = c' ∧ j = i) → (aw_uI T c' i v).1 c j = T.1 c j := fun T c' i v y => by
          rw [uI_at]
          by_cases z : c = c'
          · rw [if_pos z, if_neg (fun w => y ⟨z, w⟩), z]
          · rw [if_neg z]
        rw [a1 _ _ _ _ (by omega), a1 _ _ _ _ (by omega), a1 _ _ _ _ (by omega)]
      have hd3 : (aw_uI (aw_uI (aw_uI S 88 (ncN s.cd s.N) (nI k)) 92 (ncN s.cd s.N) (nI (ncN s.cd s.N + 1))) 87 1 (nI (ncN s.cd s.N + 1))).1 87 1 = nI (ncN s.cd s.N + 1) ∧ (aw_uI (aw_uI (aw_uI S 88 (ncN s.cd s.N) (nI k)) 92 (ncN s.cd s.N) (nI (ncN s.cd s.N + 1))) 87 1 (nI (ncN s.cd s.N + 1))).1 92 (ncN s.cd s.N) = nI (ncN s.cd s.N + 1) ∧ (aw_uI (aw_uI (aw_uI S 88 (ncN s.cd s.N) (nI k)) 92 (ncN s.cd s.N) (nI (ncN s.cd s.N + 1))) 87 1 (nI (ncN s.cd s.N + 1))).1 88 (ncN s.cd s.N) = nI k := by
        refine ⟨by rw [uI_at, if_pos rfl, if_pos rfl], by rw [uI_ne _ _ _ (by decide), uI_at, if_pos rfl, if_pos rfl], by rw [uI_ne _ _ _ (by decide), uI_ne _ _ _ (by decide), uI_at, if_pos rfl, if_pos rfl]⟩
      have hdR : (aw_uI (aw_uI (aw_uI S 88 (ncN s.cd s.N) (nI k)) 92 (ncN s.cd s.N) (nI (ncN s.cd s.N + 1))) 87 1 (nI (ncN s.cd s.N + 1))).2.2 = S.2.2 := rfl
      have plain : ¬ (k = 11 ∨ k = 16) → AW l m_Re_takeStep (d + 6) 0 0 (gI sh0 P) 0 0 64 [.ref 93, .int (nI k), .int 0, .null, .null] [] sh0 S := by
        intro ho
        rw [if_neg (fun y => ho y.1)] at kk
        refine s_Re_takeStep_64 rfl ⟨fun _ => ⟨87, hRS.2.2.1, rfl, 88, hRS.2.2.2.1.2.1.1, 30, rfl, vp87, 92, hRS.2.2.2.1.2.1.2.2.2.2, 30, rfl, vp87, fun _ => ⟨94, hRS.1, rfl, ?_⟩, fun y => absurd rfl y⟩, fun y => absurd rfl y⟩
        rw [h3.2.1, nI_clamp (by omega), nI_1, v87, nI_1]
        refine st_head hn hb hR h0 hnm hB h hs h30 ⟨hd0, hd1, fun c j q => hd2 c j (by omega), hd3.1, ?_, fun q => absurd q ho, hd3.2.1, hd3.2.2⟩ rfl kk
        rw [if_neg ho, hd2 93 8 (by omega)]
        exact h6
      have opens : (k = 11 ∨ k = 16) → AW l m_Re_takeStep (d + 6) 0 0 (gI sh0 P) 0 0 64 [.ref 93, .int (nI k), .int 1, .null, .null] [] sh0 S := by
        intro ho
        refine s_Re_takeStep_64 rfl ⟨fun y => absurd y (by decide), fun _ => ?_⟩
        rw [h6]
        refine ⟨fun z => ⟨87, hRS.2.2.1, rfl, 88, hRS.2.2.2.1.2.1.1, 30, rfl, vp87, 92, hRS.2.2.2.1.2.1.2.2.2.2, 30, rfl, vp87, fun y => absurd y (by decide), fun _ => ⟨96, hRS.2.2.2.2.1, 3, rfl, ?_⟩⟩, fun z => ⟨94, hRS.1, rfl, sp_blame (k0 := 7) h2 (fun S' F T => ⟨Or.inl rfl, kk 0 S' (Or.inl rfl) ?_⟩)⟩⟩
        · have D3 : s.D < 3 := (nI_ltI (b := 3) (by omega) (by omega)).mp z
          rw [if_neg (fun y => by omega)] at kk
          have w8 := (hd2 93 8 (by omega)).trans h6
          rw [h3.2.1, nI_clamp (by omega), nI_1, v87, nI_1, w8, nI_clamp (by omega)]
          have w9 : (aw_uI (aw_uI (aw_uI (aw_uI S 88 (ncN s.cd s.N) (nI k)) 92 (ncN s.cd s.N) (nI (ncN s.cd s.N + 1))) 87 1 (nI (ncN s.cd s.N + 1))) 96 s.D (nI (ncN s.cd s.N))).1 93 8 = nI s.D := by rw [uI_ne _ _ _ (by decide)]; exact w8
          rw [w9, nI_1]
          refine ⟨vp_in_nI D3 (by omega), 94, hRS.1, rfl, ?_⟩
          generalize (aw_uI (aw_uI (aw_uI S 88 (ncN s.cd s.N) (nI k)) 92 (ncN s.cd s.N) (nI (ncN s.cd s.N + 1))) 87 1 (nI (ncN s.cd s.N + 1))) = U at hd0 hd1 hd2 hd3 hdR w8 w9
          refine st_head hn hb hR h0 hnm hB h hs h30 ⟨(hd0.uI _ (by omega)).uI _ (by omega), (hd1.cell _ _ (by decide)).cell _ _ (by decide), fun c j q => ?_, ?_, ?_, fun q => ?_, ?_, ?_⟩ rfl kk
          · rw [uI_at]
            by_cases y : c = 93
            · rw [if_pos y, if_neg (by omega), uI_ne _ _ _ (by omega), ← y]
              exact hd2 c j (by omega)
            · rw [if_neg y, uI_at]
              by_cases y2 : c = 96
              · rw [if_pos y2, if_neg (by omega), ← y2]
                exact hd2 c j (by omega)
              · rw [if_neg y2]
                exact hd2 c j (by omega)
          · rw [uI_ne _ _ _ (by decide), uI_ne _ _ _ (by decide)]; exact hd3.1
          · rw [uI_at, if_pos rfl, if_pos rfl, if_pos ho]
          · rw [uI_ne _ _ _ (by decide), uI_at, if_pos rfl, if_pos rfl]
          · rw [uI_ne _ _ _ (by decide), uI_ne _ _ _ (by decide)]; exact hd3.2.1
          · rw [uI_ne _ _ _ (by decide), uI_ne _ _ _ (by decide)]; exact hd3.2.2
        · have D3 : s.D = 3 := by
            have : ¬ s.D < 3 := fun y => z (nI_lt (b := 3) y (by omega))
            omega
          rw [if_pos ⟨ho, D3⟩]
          exact ⟨rfl, h1.u F, T⟩
      have is : ∀ {m : Nat}, m < 100 → nI k = nI m → k = m := fun hm z => (nI_inj (by omega) (by omega)).mp z
      refine ⟨fun z => opens (Or.inl (is (m := 11) (by omega) z)), fun z => ⟨fun z2 => plain (fun y => y.elim (fun y => z (by rw [y]; rfl)) (fun y => z2 (by rw [y]; rfl))), fun z2 => opens (Or.inr (is (m := 16) (by omega) z2))⟩⟩
    · have e30 : ncN s.cd s.N = 30 := by
        have : ¬ ncN s.cd s.N < 30 := fun y => z (nI_lt (b := 30) y (by omega))
        omega
      rw [if_pos e30]
      exact ⟨rfl, h1.u F, T⟩
  · have e : fstep B L n nm s = .inl (blF 2 s.t) := by
      unfold fstep
      cases hk : rwT B s.t with
      | none => rfl
      | some k =>
        show (if k = 17 then _ else fbody B L n nm s k) = _
        rw [if_neg (fun y => h17 (by rw [hk, y]))]
        unfold fbody
        rw [if_neg (show ¬ (k = 4 ∨ k = 7 ∨ k = 8 ∨ k = 9 ∨ k = 10 ∨ k = 11 ∨ k = 16 ∨ k = 18) from hs k hk)]
    rw [e]
    exact ⟨rfl, h1.u F, T⟩
end FSU
