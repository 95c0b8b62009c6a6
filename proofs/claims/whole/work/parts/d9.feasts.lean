/-! feasts as a text: the reference takes a step -/
def FmX (k j : Nat) : Prop := FX k j ∨ (k = 114 ∧ (j = 22 ∨ j = 23)) ∨ (k = 115 ∧ 2208 ≤ j ∧ j < 2760) ∨ k = 122
/-- the slot at q holds it -/
def FdM (I : Nat → Nat → Int32) (q : Nat) (s : FpS) : Prop := I 115 (q + 5) = nI s.N ∧ ∀ e, e < s.N → I 115 (q + 184 + 6 * e) = nI (s.cd e) ∧ (s.cd e = 13 → I 115 (q + 184 + 6 * e + 4) = nI (s.pr e)) ∧ (opN s.cd e = true → s.pr e < 1000 → I 115 (q + 184 + 6 * e + 4) = nI (s.pr e)) ∧ (¬ s.cd e = 13 → enM (s.cd e) (s.xa e) (s.xb e) (s.xc e) (I 115 (q + 184 + 6 * e + 1)) (I 115 (q + 184 + 6 * e + 2)) (I 115 (q + 184 + 6 * e + 5)))
def FmR (S0 T : aw_S) (B : Nat → Nat) (L : Nat) (s : FpS) : Prop := FrI FmX S0 T ∧ TmG T B L s.t ∧ FdM T.1 2208 s ∧ T.1 114 22 = nI s.D ∧ T.1 114 23 = nI (ncN s.cd s.N) ∧ ∀ i, i < s.D → T.1 122 i = nI (s.sk i)
def OutG (S0 : aw_S) (B : Nat → Nat) (L : Nat) (x : Int32) (T' : aw_S) (r : RsT FpS) : Prop := match r with
  | .inl f => x = 0 ∧ FrI FmX S0 T' ∧ FtM T' f
  | .inr s' => x = 1 ∧ FmR S0 T' B L s'
section FMS
variable {l : Launch} {d L n : Nat} {B : Nat → Nat} {S0 T T' : aw_S} {s : FpS} {t' : TK} {nm : Nat → List Nat}
theorem FmR.add {c x1 x2 x5 : Nat} (hB : FpB n s) (hv : enV n c x1 x2 x5) (h : FmR S0 T B L s) (hF : FrI FmX S0 T') (hI : ∀ k j, ¬ (FX k j ∨ (k = 115 ∧ ((2392 + 6 * s.N ≤ j ∧ j ≤ 2392 + 6 * s.N + 5) ∨ j = 2213)) ∨ (k = 114 ∧ (j = 22 ∨ j = 23)) ∨ (k = 122 ∧ j = s.D)) → T'.1 k j = T.1 k j) (hT : TmG T' B L t') (e0 : T'.1 115 2213 = nI (s.N + 1)) (e1 : T'.1 115 (2392 + 6 * s.N) = nI c) (eE : enM c x1 x2 x5 (T'.1 115 (2392 + 6 * s.N + 1)) (T'.1 115 (2392 + 6 * s.N + 2)) (T'.1 115 (2392 + 6 * s.N + 5))) (eD : T'.1 114 22 = nI (if c = 12 ∨ 1100 ≤ c then s.D + 1 else s.D)) (eC : T'.1 114 23 = nI (ncN s.cd s.N + 1)) (eO : (c = 12 ∨ 1100 ≤ c) → T'.1 122 s.D = nI s.N) : FmR S0 T' B L (addS s t' c x1 x2 x5) := by
  obtain ⟨-, h2, ⟨h3, h4⟩, h5, h6, h7⟩ := h
  obtain ⟨c1, c2⟩ := enV_c hv
  have N60 := hB.n60
  have b7 := hB.2.2.2.2.2.1
  have nN : ncN (upN s.cd s.N c) s.N = ncN s.cd s.N := nc_up s.N (Nat.le_refl _)
  have ncs : ncN (upN s.cd s.N c) (s.N + 1) = ncN s.cd s.N + 1 := by
    rw [nc_1 (by rw [upN_self]; exact c2), nN]
  have h115 : ∀ j, ¬ ((2392 + 6 * s.N ≤ j ∧ j ≤ 2392 + 6 * s.N + 5) ∨ j = 2213) → T'.1 115 j = T.1 115 j := fun j q => hI 115 j (by unfold FX; omega)
  refine ⟨hF, hT, ⟨e0, fun e he => ?_⟩, eD, ?_, fun i hi => ?_⟩
  · have he : e < s.N + 1 := he
    show T'.1 115 (2392 + 6 * e) = nI (upN s.cd s.N c e) ∧ (upN s.cd s.N c e = 13 → T'.1 115 (2392 + 6 * e + 4) = nI (upN s.pr s.N 1000 e)) ∧ (opN (upN s.cd s.N c) e = true → upN s.pr s.N 1000 e < 1000 → T'.1 115 (2392 + 6 * e + 4) = nI (upN s.pr s.N 1000 e)) ∧ (¬ upN s.cd s.N c e = 13 → enM (upN s.cd s.N c e) (upN s.xa s.N x1 e) (upN s.xb s.N x2 e) (upN s.xc s.N x5 e) (T'.1 115 (2392 + 6 * e + 1)) (T'.1 115 (2392 + 6 * e + 2)) (T'.1 115 (2392 + 6 * e + 5)))
    by_cases z : e = s.N
    · rw [z, upN_self, upN_self, upN_self, upN_self, upN_self]
      exact ⟨e1, fun y => absurd y c2, fun _ y => by omega, fun _ => eE⟩
    · have lt : e < s.N := by omega
      rw [upN_lt z, upN_lt z, upN_lt z, upN_lt z, upN_lt z, op_up z, h115 _ (by omega), h115 _ (by omega), h115 _ (by omega), h115 _ (by omega), h115 _ (by omega)]
      exact h4 e lt
  · show T'.1 114 23 = nI (ncN (upN s.cd s.N c) (s.N + 1))
    rw [ncs]; exact eC
  · have hi : i < (if c = 12 ∨ 1100 ≤ c then s.D + 1 else s.D) := hi
    show T'.1 122 i = nI ((if c = 12 ∨ 1100 ≤ c then upN s.sk s.D s.N else s.sk) i)
    by_cases q : c = 12 ∨ 1100 ≤ c
    · rw [if_pos q] at hi ⊢
      by_cases y : i = s.D
      · rw [y, upN_self]; exact eO q
      · rw [upN_lt y, hI 122 i (by unfold FX; omega)]
        exact h7 i (by omega)
    · rw [if_neg q] at hi ⊢
      rw [hI 122 i (by unfold FX; omega)]
      exact h7 i hi
theorem FmR.clo (hB : FpB n s) (hD : 0 < s.D) (h : FmR S0 T B L s) (hF : FrI FmX S0 T') (hI : ∀ k j, ¬ (FX k j ∨ (k = 115 ∧ ((2392 + 6 * s.N ≤ j ∧ j ≤ 2392 + 6 * s.N + 5) ∨ j = 2213 ∨ j = 2392 + 6 * s.sk (s.D - 1) + 4)) ∨ (k = 114 ∧ (j = 22 ∨ j = 23))) → T'.1 k j = T.1 k j) (hT : TmG T' B L t') (e0 : T'.1 115 2213 = nI (s.N + 1)) (e1 : T'.1 115 (2392 + 6 * s.N) = nI 13) (e4 : T'.1 115 (2392 + 6 * s.N + 4) = nI (s.sk (s.D - 1))) (eo : T'.1 115 (2392 + 6 * s.sk (s.D - 1) + 4) = nI s.N) (eD : T'.1 114 22 = nI (s.D - 1)) (eC : T'.1 114 23 = nI (ncN s.cd s.N)) : FmR S0 T' B L (cloS s t') := by
  obtain ⟨-, h2, ⟨h3, h4⟩, h5, h6, h7⟩ := h
  have N60 := hB.n60
  have b6 := hB.2.2.2.2.1
  have b8 := hB.2.2.2.2.2.2.1
  obtain ⟨o1, o2, o3⟩ := b8 (s.D - 1) (by omega)
  have oc := op_13 o2
  have nN : ncN (upN s.cd s.N 13) s.N = ncN s.cd s.N := nc_up s.N (Nat.le_refl _)
  have ncs : ncN (upN s.cd s.N 13) (s.N + 1) = ncN s.cd s.N := by rw [nc_0 upN_self, nN]
  have h115 : ∀ j, ¬ ((2392 + 6 * s.N ≤ j ∧ j ≤ 2392 + 6 * s.N + 5) ∨ j = 2213 ∨ j = 2392 + 6 * s.sk (s.D - 1) + 4) → T'.1 115 j = T.1 115 j := fun j q => hI 115 j (by unfold FX; omega)
  refine ⟨hF, hT, ⟨e0, fun e he => ?_⟩, eD, ?_, fun i hi => ?_⟩
  · have he : e < s.N + 1 := he
    show T'.1 115 (2392 + 6 * e) = nI (upN s.cd s.N 13 e) ∧ (upN s.cd s.N 13 e = 13 → T'.1 115 (2392 + 6 * e + 4) = nI (upN (upN s.pr (s.sk (s.D - 1)) s.N) s.N (s.sk (s.D - 1)) e)) ∧ (opN (upN s.cd s.N 13) e = true → upN (upN s.pr (s.sk (s.D - 1)) s.N) s.N (s.sk (s.D - 1)) e < 1000 → T'.1 115 (2392 + 6 * e + 4) = nI (upN (upN s.pr (s.sk (s.D - 1)) s.N) s.N (s.sk (s.D - 1)) e)) ∧ (¬ upN s.cd s.N 13 e = 13 → enM (upN s.cd s.N 13 e) (s.xa e) (s.xb e) (s.xc e) (T'.1 115 (2392 + 6 * e + 1)) (T'.1 115 (2392 + 6 * e + 2)) (T'.1 115 (2392 + 6 * e + 5)))
    by_cases z : e = s.N
    · rw [z, upN_self, upN_self]
      exact ⟨e1, fun _ => e4, fun _ _ => e4, fun y => absurd rfl y⟩
    · have lt : e < s.N := by omega
      rw [upN_lt z, upN_lt z, op_up z, h115 (2392 + 6 * e) (by omega), h115 (2392 + 6 * e + 1) (by omega), h115 (2392 + 6 * e + 2) (by omega), h115 (2392 + 6 * e + 5) (by omega)]
      obtain ⟨g1, g2, g3, g4⟩ := h4 e lt
      by_cases y : e = s.sk (s.D - 1)
      · rw [← y] at eo oc ⊢
        rw [upN_self]
        exact ⟨g1, fun q => absurd q oc, fun _ _ => eo, g4⟩
      · rw [upN_lt y, h115 (2392 + 6 * e + 4) (by omega)]
        exact ⟨g1, g2, g3, g4⟩
  · show T'.1 114 23 = nI (ncN (upN s.cd s.N 13) (s.N + 1))
    rw [ncs]; exact eC
  · have hi : i < s.D - 1 := hi
    show T'.1 122 i = nI (s.sk i)
    rw [hI 122 i (by unfold FX; omega)]
    exact h7 i (by omega)
/-- the five cells behind an entry's code -/
theorem fm_zero {P : Int32 → aw_S → Prop} {v : Nat} {i1 i2 i4 : Int32} (hv : v + 5 < 3864) (hR : T.2.2 114 0 = some 115) (k : ∀ U, FrI (fun c j => c = 115 ∧ v + 1 ≤ j ∧ j ≤ v + 5) T U → AW l m_Md_feastStep (d + 10) 0 0 (gI sh0 P) 0 0 164 [.ref 114, .int i1, .int i2, .int (nI v), .int i4, .null, .int 6] [] sh0 U) : AW l m_Md_feastStep (d + 10) 0 0 (gI sh0 P) 0 0 164 [.ref 114, .int i1, .int i2, .int (nI v), .int i4, .null, .int 1] [] sh0 T := by
  have key : ∀ m i U, i + m = 6 → 1 ≤ i → FrI (fun c j => c = 115 ∧ v + 1 ≤ j ∧ j ≤ v + 5) T U → AW l m_Md_feastStep (d + 10) 0 0 (gI sh0 P) 0 0 164 [.ref 114, .int i1, .int i2, .int (nI v), .int i4, .null, .int (nI i)] [] sh0 U := by
    intro m
    induction m with
    | zero =>
      intro i U hi _ F
      have hi : i = 6 := hi
      rw [hi]
      exact k U F
    | succ m ih =>
      intro i U hi h1 F
      refine s_Md_feastStep_164 rfl ⟨fun z => absurd ((nI_leI (a := 6) (by omega) (by omega)).mp z) (by omega), fun _ => ⟨115, by rw [F.R]; exact hR, 3864, rfl, ?_⟩⟩
      rw [nI_add, nI_clamp (by omega), nI_1]
      exact ⟨vp_in_nI (by omega) (by omega), ih (i + 1) _ (by omega) (by omega) (F.uI _ ⟨rfl, by omega, by omega⟩)⟩
  exact key 5 1 T (by omega) (by omega) (FrI.refl _ T)
/-- behind the token of a step's word -/
theorem fm_7 {m q : Nat} {T1 U S7 : aw_S} (h : FmR S0 T B L s) (hN : s.N ≤ 59) (hT1 : FrI (fun c j => (c = 114 ∧ j = 23) ∨ (c = 115 ∧ j = 2392 + 6 * s.N)) T T1) (e23 : T1.1 114 23 = nI q) (ev : T1.1 115 (2392 + 6 * s.N) = nI m) (hU : FrI (fun c j => c = 115 ∧ 2392 + 6 * s.N + 1 ≤ j ∧ j ≤ 2392 + 6 * s.N + 5) T1 U) (h7 : FrI FX (aw_uI U 115 2213 (nI (s.N + 1))) S7) : (∀ c j, ¬ (FX c j ∨ (c = 115 ∧ ((2392 + 6 * s.N ≤ j ∧ j ≤ 2392 + 6 * s.N + 5) ∨ j = 2213)) ∨ (c = 114 ∧ j = 23)) → S7.1 c j = T.1 c j) ∧ S7.2 = T.2 ∧ S7.1 115 2213 = nI (s.N + 1) ∧ S7.1 115 (2392 + 6 * s.N) = nI m ∧ S7.1 114 23 = nI q := by
  refine ⟨fun c j z => ?_, ?_, ?_, ?_, ?_⟩
  · rw [h7.1 c j (fun w => z (Or.inl w)), uI_at]
    by_cases y : c = 115
    · rw [if_pos y, if_neg (by omega), ← y, hU.1 c j (by omega), hT1.1 c j (by omega)]
    · rw [if_neg y, hU.1 c j (by omega), hT1.1 c j (by omega)]
  · rw [h7.2]
    show U.2 = T.2
    rw [hU.2, hT1.2]
  · rw [cU h7, if_pos rfl]
  · rw [cU h7, if_neg (by omega), hU.1 115 _ (by omega)]; exact ev
  · rw [h7.1 114 23 (by unfold FX; omega), uI_ne _ _ _ (by decide), hU.1 114 23 (by omega)]; exact e23
theorem fm_5 {T1 U : aw_S} (h : FmR S0 T B L s) (hT1 : FrI (fun c j => (c = 114 ∧ j = 23) ∨ (c = 115 ∧ j = 2392 + 6 * s.N)) T T1) (hU : FrI (fun c j => c = 115 ∧ 2392 + 6 * s.N + 1 ≤ j ∧ j ≤ 2392 + 6 * s.N + 5) T1 U) : U.1 115 2213 = nI s.N ∧ TmG (aw_uI U 115 2213 (nI (s.N + 1))) B L s.t := by
  refine ⟨?_, TmG.c115 (h.2.1.fr (fun j hj => ?_) (funext fun j => ?_) ?_) _⟩
  · rw [hU.1 115 2213 (by omega), hT1.1 115 2213 (by omega)]
    exact h.2.2.1.1
  · rw [hU.1 114 j (by omega), hT1.1 114 j (by omega)]
  · rw [hU.1 121 j (by omega), hT1.1 121 j (by omega)]
  · rw [hU.R, hT1.R]
end FMS
