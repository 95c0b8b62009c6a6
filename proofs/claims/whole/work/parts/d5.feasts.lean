/-! feasts as a text: the class takes a step -/
/-- behind an entry -/
def bhF (cd pr : Nat → Nat) (e : Nat) : Nat := if opN cd e = true ∧ pr e < 1000 then ncN cd (pr e) else ncN cd e + 1
/-- the draft holds it -/
def FdC (I : Nat → Nat → Int32) (s : FpS) : Prop := I 87 0 = 1 ∧ I 87 1 = nI (ncN s.cd s.N) ∧ ∀ e, e < s.N → ¬ s.cd e = 13 → enC (s.cd e) (s.xa e) (s.xb e) (s.xc e) (I 88 (ncN s.cd e)) (I 89 (ncN s.cd e)) (I 90 (ncN s.cd e)) (I 91 (ncN s.cd e)) ∧ I 92 (ncN s.cd e) = nI (bhF s.cd s.pr e)
def FcF (S0 S : aw_S) : Prop := (∀ k j, ¬ (k = 93 ∨ k = 94 ∨ (87 ≤ k ∧ k ≤ 92) ∨ k = 96) → S.1 k j = S0.1 k j) ∧ (∀ k j, k ≠ 94 → S.2.1 k j = S0.2.1 k j) ∧ S.2.2 = S0.2.2
def FcR (S0 S : aw_S) (B : Nat → Nat) (L : Nat) (s : FpS) : Prop := FcF S0 S ∧ TcG S B L s.t ∧ FdC S.1 s ∧ S.1 93 8 = nI s.D ∧ ∀ i, i < s.D → S.1 96 i = nI (ncN s.cd (s.sk i))
def OutF (S0 : aw_S) (B : Nat → Nat) (L : Nat) (x : Int32) (S' : aw_S) (r : RsT FpS) : Prop := match r with
  | .inl f => x = 0 ∧ FcF S0 S' ∧ FtC S' f
  | .inr s' => x = 1 ∧ FcR S0 S' B L s'
theorem FcF.u {S0 S S' : aw_S} (h : FcF S0 S) (F : FrU S S') : FcF S0 S' := ⟨fun k j q => (F.1 k j (by omega)).trans (h.1 k j q), fun k j q => (F.2.1 k j q).trans (h.2.1 k j q), F.2.2.trans h.2.2⟩
theorem FcF.uI {S0 S : aw_S} (h : FcF S0 S) {k j : Nat} (v : Int32) (hk : k = 93 ∨ (87 ≤ k ∧ k ≤ 92) ∨ k = 96) : FcF S0 (aw_uI S k j v) := ⟨fun c i q => by rw [uI_ne _ _ _ (by omega)]; exact h.1 c i q, h.2.1, h.2.2⟩
theorem FcF.c {S0 S S' : aw_S} {c p : Nat} (h : FcF S0 S) (F : FrC c p S S') (hc : 87 ≤ c ∧ c ≤ 92) : FcF S0 S' := ⟨fun k j q => (F.1 k j (by omega)).trans (h.1 k j q), fun k j q => (F.2.1 k j q).trans (h.2.1 k j q), F.2.2.trans h.2.2⟩
theorem FcF.r {S0 S S' : aw_S} {p : Nat} (h : FcF S0 S) (F : FrR p S S') : FcF S0 S' := ⟨fun k j q => (F.1 k j (by omega)).trans (h.1 k j q), fun k j q => (F.2.1 k j q).trans (h.2.1 k j q), F.2.2.trans h.2.2⟩
theorem nc_in {cd : Nat → Nat} {e e' : Nat} (h : e < e') (hc : ¬ cd e = 13) : ncN cd e < ncN cd e' := by
  have h1 := nc_1 hc
  have h2 := nc_mono cd (x := e + 1) (y := e') h
  omega
theorem nc_le (cd : Nat → Nat) (e : Nat) : ncN cd e ≤ e := by
  induction e with
  | zero => exact Nat.le_refl _
  | succ e ih =>
    show ncN cd e + (if cd e = 13 then 0 else 1) ≤ e + 1
    split <;> omega
section FST
variable {l : Launch} {d b L n : Nat} {B : Nat → Nat} {S0 S S' : aw_S} {s : FpS} {t' : TK} {nm : Nat → List Nat}
theorem FpB.n60 (h : FpB n s) : s.N ≤ 60 := by
  have h1 := h.2.1
  have h2 := h.2.2.1
  omega
theorem FcR.add {c x1 x2 x5 : Nat} (hB : FpB n s) (hv : enV n c x1 x2 x5) (h : FcR S0 S B L s) (hF : FcF S0 S') (hI : ∀ k j, ¬ (k = 94 ∨ ((88 ≤ k ∧ k ≤ 92) ∧ j = ncN s.cd s.N) ∨ (k = 87 ∧ j = 1) ∨ (k = 96 ∧ j = s.D) ∨ (k = 93 ∧ j = 8)) → S'.1 k j = S.1 k j) (hT : TcG S' B L t') (e1 : S'.1 87 1 = nI (ncN s.cd s.N + 1)) (eD : S'.1 93 8 = nI (if c = 12 ∨ 1100 ≤ c then s.D + 1 else s.D)) (eO : (c = 12 ∨ 1100 ≤ c) → S'.1 96 s.D = nI (ncN s.cd s.N)) (eE : enC c x1 x2 x5 (S'.1 88 (ncN s.cd s.N)) (S'.1 89 (ncN s.cd s.N)) (S'.1 90 (ncN s.cd s.N)) (S'.1 91 (ncN s.cd s.N))) (eB : S'.1 92 (ncN s.cd s.N) = nI (ncN s.cd s.N + 1)) : FcR S0 S' B L (addS s t' c x1 x2 x5) := by
  obtain ⟨-, h2, ⟨h3, h4, h5⟩, h6, h7⟩ := h
  obtain ⟨c1, c2⟩ := enV_c hv
  have N60 := hB.n60
  have b7 := hB.2.2.2.2.2.1
  have b8 := hB.2.2.2.2.2.2.1
  have nN : ncN (upN s.cd s.N c) s.N = ncN s.cd s.N := nc_up s.N (Nat.le_refl _)
  have ncs : ncN (upN s.cd s.N c) (s.N + 1) = ncN s.cd s.N + 1 := by
    rw [nc_1 (by rw [upN_self]; exact c2), nN]
  refine ⟨hF, hT, ⟨?_, ?_, fun e he hc => ?_⟩, eD, fun i hi => ?_⟩
  · rw [hI 87 0 (by omega)]; exact h3
  · show S'.1 87 1 = nI (ncN (upN s.cd s.N c) (s.N + 1))
    rw [ncs]; exact e1
  · have he : e < s.N + 1 := he
    have hc : ¬ upN s.cd s.N c e = 13 := hc
    show enC (upN s.cd s.N c e) (upN s.xa s.N x1 e) (upN s.xb s.N x2 e) (upN s.xc s.N x5 e) (S'.1 88 (ncN (upN s.cd s.N c) e)) (S'.1 89 (ncN (upN s.cd s.N c) e)) (S'.1 90 (ncN (upN s.cd s.N c) e)) (S'.1 91 (ncN (upN s.cd s.N c) e)) ∧ S'.1 92 (ncN (upN s.cd s.N c) e) = nI (bhF (upN s.cd s.N c) (upN s.pr s.N 1000) e)
    by_cases z : e = s.N
    · rw [z, upN_self, upN_self, upN_self, upN_self, nN]
      refine ⟨eE, ?_⟩
      unfold bhF
      rw [if_neg (by rw [upN_self]; omega), nN]
      exact eB
    · have lt : e < s.N := by omega
      rw [upN_lt z] at hc
      have i1 := nc_in lt hc
      rw [upN_lt z, upN_lt z, upN_lt z, upN_lt z, nc_up e (by omega), hI 88 _ (by omega), hI 89 _ (by omega), hI 90 _ (by omega), hI 91 _ (by omega), hI 92 _ (by omega)]
      obtain ⟨g1, g2⟩ := h5 e lt hc
      refine ⟨g1, g2.trans (congrArg nI ?_)⟩
      unfold bhF
      rw [op_up z, upN_lt z, nc_up e (by omega)]
      by_cases q : opN s.cd e = true ∧ s.pr e < 1000
      · rw [if_pos q, if_pos q]
        rcases b7 e lt q.1 with ⟨a1, -⟩ | ⟨-, a2, -⟩
        · omega
        · rw [nc_up _ (by omega)]
      · rw [if_neg q, if_neg q]
  · have hi : i < (if c = 12 ∨ 1100 ≤ c then s.D + 1 else s.D) := hi
    show S'.1 96 i = nI (ncN (upN s.cd s.N c) ((if c = 12 ∨ 1100 ≤ c then upN s.sk s.D s.N else s.sk) i))
    by_cases q : c = 12 ∨ 1100 ≤ c
    · rw [if_pos q] at hi ⊢
      by_cases y : i = s.D
      · rw [y, upN_self, nN]; exact eO q
      · have b := b8 i (by omega)
        rw [upN_lt y, nc_up _ (by omega), hI 96 i (by omega)]
        exact h7 i (by omega)
    · rw [if_neg q] at hi ⊢
      have b := b8 i hi
      rw [nc_up _ (by omega), hI 96 i (by omega)]
      exact h7 i hi
theorem FcR.clo (hB : FpB n s) (hD : 0 < s.D) (h : FcR S0 S B L s) (hF : FcF S0 S') (hI : ∀ k j, ¬ (k = 94 ∨ (k = 92 ∧ j = ncN s.cd (s.sk (s.D - 1))) ∨ (k = 93 ∧ j = 8)) → S'.1 k j = S.1 k j) (hT : TcG S' B L t') (eD : S'.1 93 8 = nI (s.D - 1)) (eB : S'.1 92 (ncN s.cd (s.sk (s.D - 1))) = nI (ncN s.cd s.N)) : FcR S0 S' B L (cloS s t') := by
  obtain ⟨-, h2, ⟨h3, h4, h5⟩, h6, h7⟩ := h
  have N60 := hB.n60
  have b7 := hB.2.2.2.2.2.1
  have b8 := hB.2.2.2.2.2.2.1
  obtain ⟨o1, o2, o3⟩ := b8 (s.D - 1) (by omega)
  have nN : ncN (upN s.cd s.N 13) s.N = ncN s.cd s.N := nc_up s.N (Nat.le_refl _)
  have ncs : ncN (upN s.cd s.N 13) (s.N + 1) = ncN s.cd s.N := by
    rw [nc_0 upN_self, nN]
  have oc : ¬ s.cd (s.sk (s.D - 1)) = 13 := op_13 o2
  refine ⟨hF, hT, ⟨?_, ?_, fun e he hc => ?_⟩, eD, fun i hi => ?_⟩
  · rw [hI 87 0 (by omega)]; exact h3
  · show S'.1 87 1 = nI (ncN (upN s.cd s.N 13) (s.N + 1))
    rw [ncs, hI 87 1 (by omega)]; exact h4
  · have he : e < s.N + 1 := he
    have hc : ¬ upN s.cd s.N 13 e = 13 := hc
    show enC (upN s.cd s.N 13 e) (s.xa e) (s.xb e) (s.xc e) (S'.1 88 (ncN (upN s.cd s.N 13) e)) (S'.1 89 (ncN (upN s.cd s.N 13) e)) (S'.1 90 (ncN (upN s.cd s.N 13) e)) (S'.1 91 (ncN (upN s.cd s.N 13) e)) ∧ S'.1 92 (ncN (upN s.cd s.N 13) e) = nI (bhF (upN s.cd s.N 13) (upN (upN s.pr (s.sk (s.D - 1)) s.N) s.N (s.sk (s.D - 1))) e)
    have z : e ≠ s.N := fun z => by rw [z, upN_self] at hc; exact hc rfl
    have lt : e < s.N := by omega
    rw [upN_lt z] at hc
    rw [upN_lt z, nc_up e (by omega), hI 88 _ (by omega), hI 89 _ (by omega), hI 90 _ (by omega), hI 91 _ (by omega)]
    obtain ⟨g1, g2⟩ := h5 e lt hc
    refine ⟨g1, ?_⟩
    unfold bhF
    rw [op_up z, upN_lt z, nc_up e (by omega)]
    by_cases y : e = s.sk (s.D - 1)
    · rw [← y] at o2 eB ⊢
      rw [upN_self, if_pos ⟨o2, by omega⟩, nN]
      exact eB
    · have i1 : ncN s.cd e ≠ ncN s.cd (s.sk (s.D - 1)) := by
        rcases Nat.lt_or_ge e (s.sk (s.D - 1)) with q | q
        · have := nc_in q hc
          omega
        · have := nc_in (cd := s.cd) (e := s.sk (s.D - 1)) (e' := e) (by omega) oc
          omega
      rw [upN_lt y, hI 92 _ (by omega)]
      refine g2.trans (congrArg nI ?_)
      unfold bhF
      by_cases q : opN s.cd e = true ∧ s.pr e < 1000
      · rw [if_pos q, if_pos q]
        rcases b7 e lt q.1 with ⟨a1, -⟩ | ⟨-, a2, -⟩
        · omega
        · rw [nc_up _ (by omega)]
      · rw [if_neg q, if_neg q]
  · have hi : i < s.D - 1 := hi
    show S'.1 96 i = nI (ncN (upN s.cd s.N 13) (s.sk i))
    have b := b8 i (by omega)
    rw [nc_up _ (by omega), hI 96 i (by omega)]
    exact h7 i (by omega)
theorem sp_takeEnd {P : Int32 → aw_S → Prop} (hR : FcS S0.2.2 b) (hB : FpB n s) (h : FcR S0 S B L s) (k : ∀ x S', (x = 0 ∨ x = 1) → OutF S0 B L x S' (if s.D = 0 then .inl (blF 2 s.t) else seK B L (tkF B L s.t.e) fun t' => .inr (cloS s t')) → P x S') : Sp l m_Re_takeEnd (d + 6) 0 0 [.ref 93] sh0 S (gI sh0 P) := by
  obtain ⟨h1, h2, h3, h6, h7⟩ := id h
  have hRS : FcS S.2.2 b := hR.fr h1.2.2
  have b1 := hB.1
  have N60 := hB.n60
  refine e_Re_takeEnd rfl ⟨fun z => ?_, fun z => ?_⟩
  · rw [h6] at z
    have D0 : ¬ s.D = 0 := fun y => z (by rw [y]; rfl)
    rw [if_neg D0] at k
    obtain ⟨o1, o2, o3⟩ := hB.2.2.2.2.2.2.1 (s.D - 1) (by omega)
    have e8 : S.1 93 8 - 1 = nI (s.D - 1) := by
      rw [h6]
      have : nI s.D = nI (s.D - 1 + 1) := by rw [show s.D - 1 + 1 = s.D by omega]
      rw [this, nI_pred]
    rw [e8]
    have v8 : (aw_uI S 93 8 (nI (s.D - 1))).1 93 8 = nI (s.D - 1) := by rw [uI_at, if_pos rfl, if_pos rfl]
    rw [v8]
    have v96 : ∀ j, (aw_uI S 93 8 (nI (s.D - 1))).1 96 j = S.1 96 j := fun j => by rw [uI_ne _ _ _ (by decide)]
    have v87 : (aw_uI S 93 8 (nI (s.D - 1))).1 87 1 = nI (ncN s.cd s.N) := by rw [uI_ne _ _ _ (by decide)]; exact h3.2.1
    have q30 : ncN s.cd (s.sk (s.D - 1)) < 30 := by
      have := nc_in (cd := s.cd) o1 (op_13 o2)
      have := hB.2.1
      omega
    refine ⟨87, hRS.2.2.1, rfl, 92, hRS.2.2.2.1.2.1.2.2.2.2, 96, hRS.2.2.2.2.1, 3, rfl, vp_in_nI (by omega) (by omega), 30, rfl, ?_⟩
    rw [nI_clamp (by omega), v96, h7 (s.D - 1) (by omega), nI_clamp (by omega), v87]
    refine ⟨vp_in_nI q30 (by omega), 94, hRS.1, rfl, ?_⟩
    have T0 : TcG (aw_uI (aw_uI S 93 8 (nI (s.D - 1))) 92 (ncN s.cd (s.sk (s.D - 1))) (nI (ncN s.cd s.N))) B L s.t := (h2.cell _ _ (by decide)).cell _ _ (by decide)
    have F0 : FcF S0 (aw_uI (aw_uI S 93 8 (nI (s.D - 1))) 92 (ncN s.cd (s.sk (s.D - 1))) (nI (ncN s.cd s.N))) := (h1.uI _ (by omega)).uI _ (by omega)
    refine sp_advC T0 (fun S2 F2 T2 => ⟨94, by rw [F2.2.2]; exact hRS.1, rfl, ?_⟩)
    refine sp_semi (α := FpS) T2 (fun f hf S3 F3 T3 => ⟨Or.inl rfl, k 0 S3 (Or.inl rfl) ?_⟩) (fun hf S3 F3 T3 => ⟨Or.inr rfl, k 1 S3 (Or.inr rfl) ?_⟩)
    · rw [hf]
      exact ⟨rfl, (F0.u F2).u F3, T3⟩
    · rw [hf]
      refine ⟨rfl, FcR.clo hB (by omega) h ((F0.u F2).u F3) (fun k j q => ?_) T3 ?_ ?_⟩
      · rw [F3.1 k j (by omega), F2.1 k j (by omega), uI_at]
        by_cases y : k = 92
        · rw [if_pos y, if_neg (by omega), uI_ne _ _ _ (by omega), ← y]
        · rw [if_neg y, uI_at]
          by_cases y2 : k = 93
          · rw [if_pos y2, if_neg (by omega), ← y2]
          · rw [if_neg y2]
      · rw [F3.1 93 8 (by omega), F2.1 93 8 (by omega), uI_ne _ _ _ (by decide)]; exact v8
      · rw [F3.1 92 _ (by omega), F2.1 92 _ (by omega), uI_at, if_pos rfl, if_pos rfl]
  · rw [h6] at z
    have D0 : s.D = 0 := (nI_inj (b := 0) (by omega) (by omega)).mp z
    rw [if_pos D0] at k
    exact ⟨94, hRS.1, rfl, sp_blame (k0 := 2) h2 (fun S' F T => ⟨Or.inl rfl, k 0 S' (Or.inl rfl) ⟨rfl, h1.u F, T⟩⟩)⟩
end FST
