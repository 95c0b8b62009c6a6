/-! feed -/
theorem aw_ext {S T : aw_S} (h1 : ∀ c i, S.1 c i = T.1 c i) (h2 : ∀ c i, S.2.1 c i = T.2.1 c i) (h3 : S.2.2 = T.2.2) : S = T := by
  obtain ⟨a, b, c⟩ := S
  obtain ⟨a', b', c'⟩ := T
  have e1 : a = a' := funext fun x => funext fun y => h1 x y
  have e2 : b = b' := funext fun x => funext fun y => h2 x y
  have e3 : c = c' := h3
  subst e1; subst e2; subst e3
  rfl
def shI (k : Nat) : Int32 := nI 24 - nI (8 * k)
theorem shI_s : ∀ k, k < 4 → shI k + (-8) = shI (k + 1) ∧ ¬ shI k < 0 := by decide
theorem shI_4 : shI 4 < 0 := by decide
def btI (v : Int32) (k : Nat) : Int32 := (v >>> (shI k &&& 31)).toInt8.toInt32
theorem btI_b (v : Int32) (k : Nat) : (btI v k).toInt8.toInt32 = btI v k := by
  unfold btI
  have h := pk_vb (v >>> (shI k &&& 31))
  rw [vp_nar_byte] at h
  exact h
/-- four bytes behind the first n -/
def ap4 (n : Nat) (v : Int32) (g : Nat → Int32) (k : Nat) : Nat → Int32 := fun j => if n ≤ j ∧ j < n + k then btI v (j - n) else g j
theorem ap4_s (n : Nat) (v : Int32) (g : Nat → Int32) (k : Nat) : upd (ap4 n v g k) (n + k) (btI v k) = ap4 n v g (k + 1) := by
  funext j
  unfold upd ap4
  by_cases h1 : j = n + k
  · rw [if_pos h1, if_pos (by omega), show j - n = k by omega]
  · rw [if_neg h1]
    by_cases h2 : n ≤ j ∧ j < n + k
    · rw [if_pos h2, if_pos (by omega)]
    · rw [if_neg h2, if_neg (by omega)]
theorem ap4_0 (n : Nat) (v : Int32) (g : Nat → Int32) : ap4 n v g 0 = g := by
  funext j
  unfold ap4
  rw [if_neg (by omega)]
theorem sp_tapeInt {l : Launch} {d : Nat} {S : aw_S} {P : aw_S → Prop} {n : Nat} {v : Int32} (hR : RefsOk S.2.2) (hn : n + 4 ≤ 900) (he : S.1 0 2 = nI n) (h : P (aw_uI (aw_wI S 10 (ap4 n v (S.1 10) 4)) 0 2 (nI (n + 4)))) : Sp l m_Mg_tapeInt (d + 1) 0 0 [.ref 0, .int v] sh0 S (gV sh0 P) := by
  refine e_Mg_tapeInt rfl ?_
  have key : ∀ j k, k + j = 4 → AW l m_Mg_tapeInt (d + 1) 0 0 (gV sh0 P) 0 0 3 [.ref 0, .int v, .int (shI k)] [] sh0 (aw_uI (aw_wI S 10 (ap4 n v (S.1 10) k)) 0 2 (nI (n + k))) := by
    intro j
    induction j with
    | zero =>
      intro k hk
      have hk : k = 4 := hk
      subst hk
      exact s_Mg_tapeInt_3 rfl ⟨fun _ => h, fun q => absurd shI_4 q⟩
    | succ j ih =>
      intro k hk
      have e := ih (k + 1) (by omega)
      obtain ⟨g1, g2⟩ := shI_s k (by omega)
      have e0 : (aw_uI (aw_wI S 10 (ap4 n v (S.1 10) k)) 0 2 (nI (n + k))).1 0 2 = nI (n + k) := by rw [uI_at, if_pos rfl, if_pos rfl]
      refine s_Mg_tapeInt_3 rfl ⟨fun q => absurd q g2, fun _ => ?_⟩
      rw [e0]
      refine ⟨fun q => absurd q (nI_ge (b := 900) (by omega) (by omega)), fun _ => ⟨10, hR.at (by decide), 900, rfl, vp_in_nI (by omega) (by omega), ?_⟩⟩
      rw [nI_clamp (by omega), pk_vb, g1]
      have e1 : (aw_uI (aw_uI (aw_wI S 10 (ap4 n v (S.1 10) k)) 0 2 (nI (n + k))) 10 (n + k) ((v >>> (shI k &&& 31)).toInt8.toInt32)).1 0 2 + 1 = nI (n + (k + 1)) := by
        rw [uI_ne _ _ _ (by decide), e0, nI_1]
        rfl
      rw [e1]
      have e2 : aw_uI (aw_uI (aw_uI (aw_wI S 10 (ap4 n v (S.1 10) k)) 0 2 (nI (n + k))) 10 (n + k) ((v >>> (shI k &&& 31)).toInt8.toInt32)) 0 2 (nI (n + (k + 1))) = aw_uI (aw_wI S 10 (ap4 n v (S.1 10) (k + 1))) 0 2 (nI (n + (k + 1))) := by
        refine aw_ext (fun c i => ?_) (fun c i => rfl) rfl
        rw [← ap4_s]
        simp only [uI_at, wI_at]
        by_cases c0 : c = 0
        · subst c0
          by_cases hi : i = 2 <;> simp [hi]
        · by_cases c1 : c = 10
          · subst c1
            simp [upd, btI]
          · simp [c0, c1]
      rw [e2]
      exact e
  have k0 := key 4 0 rfl
  have e0 : aw_uI (aw_wI S 10 (ap4 n v (S.1 10) 0)) 0 2 (nI (n + 0)) = S := by
    rw [ap4_0, wI_id, uI_w]
    have : upd (S.1 0) 2 (nI (n + 0)) = S.1 0 := by
      funext i
      unfold upd
      by_cases h : i = 2
      · subst h; rw [if_pos rfl]; exact he.symm
      · rw [if_neg h]
    rw [this, wI_id]
  rw [e0] at k0
  exact k0
theorem sp_four {l : Launch} {d : Nat} {S : aw_S} {P : aw_S → Prop} {n : Nat} {v : Int32} (hR : RefsOk S.2.2) (hn : n + 4 ≤ 900) (he : S.1 114 10 = nI n) (h : P (aw_uI (aw_wI S 120 (ap4 n v (S.1 120) 4)) 114 10 (nI (n + 4)))) : Sp l m_Md_four (d + 1) 0 0 [.ref 114, .int v] sh0 S (gV sh0 P) := by
  refine e_Md_four rfl ?_
  have key : ∀ j k, k + j = 4 → AW l m_Md_four (d + 1) 0 0 (gV sh0 P) 0 0 3 [.ref 114, .int v, .int (shI k)] [] sh0 (aw_uI (aw_wI S 120 (ap4 n v (S.1 120) k)) 114 10 (nI (n + k))) := by
    intro j
    induction j with
    | zero =>
      intro k hk
      have hk : k = 4 := hk
      subst hk
      exact s_Md_four_3 rfl ⟨fun _ => h, fun q => absurd shI_4 q⟩
    | succ j ih =>
      intro k hk
      have e := ih (k + 1) (by omega)
      obtain ⟨g1, g2⟩ := shI_s k (by omega)
      have e0 : (aw_uI (aw_wI S 120 (ap4 n v (S.1 120) k)) 114 10 (nI (n + k))).1 114 10 = nI (n + k) := by rw [uI_at, if_pos rfl, if_pos rfl]
      refine s_Md_four_3 rfl ⟨fun q => absurd q g2, fun _ => ⟨120, hR.at (by decide), 900, rfl, ?_, ?_⟩⟩
      · rw [e0]; exact vp_in_nI (by omega) (by omega)
      rw [e0, nI_clamp (by omega), pk_vb, g1]
      have e1 : (aw_uI (aw_uI (aw_wI S 120 (ap4 n v (S.1 120) k)) 114 10 (nI (n + k))) 120 (n + k) ((v >>> (shI k &&& 31)).toInt8.toInt32)).1 114 10 + 1 = nI (n + (k + 1)) := by
        rw [uI_ne _ _ _ (by decide), e0, nI_1]
        rfl
      rw [e1]
      have e2 : aw_uI (aw_uI (aw_uI (aw_wI S 120 (ap4 n v (S.1 120) k)) 114 10 (nI (n + k))) 120 (n + k) ((v >>> (shI k &&& 31)).toInt8.toInt32)) 114 10 (nI (n + (k + 1))) = aw_uI (aw_wI S 120 (ap4 n v (S.1 120) (k + 1))) 114 10 (nI (n + (k + 1))) := by
        refine aw_ext (fun c i => ?_) (fun c i => rfl) rfl
        rw [← ap4_s]
        simp only [uI_at, wI_at]
        by_cases c0 : c = 114
        · subst c0
          by_cases hi : i = 10 <;> simp [hi]
        · by_cases c1 : c = 120
          · subst c1
            simp [upd, btI]
          · simp [c0, c1]
      rw [e2]
      exact e
  have k0 := key 4 0 rfl
  have e0 : aw_uI (aw_wI S 120 (ap4 n v (S.1 120) 0)) 114 10 (nI (n + 0)) = S := by
    rw [ap4_0, wI_id, uI_w]
    have : upd (S.1 114) 10 (nI (n + 0)) = S.1 114 := by
      funext i
      unfold upd
      by_cases h : i = 10
      · subst h; rw [if_pos rfl]; exact he.symm
      · rw [if_neg h]
    rw [this, wI_id]
  rw [e0] at k0
  exact k0
/-- five ints -/
def ap5 (n : Nat) (a b c d e : Int32) (g : Nat → Int32) : Nat → Int32 := ap4 (n + 4 + 4 + 4 + 4) e (ap4 (n + 4 + 4 + 4) d (ap4 (n + 4 + 4) c (ap4 (n + 4) b (ap4 n a g 4) 4) 4) 4) 4
theorem ap_norm (S : aw_S) (c k f : Nat) (hck : c ≠ k) (g g' : Nat → Int32) (v v' : Int32) : aw_uI (aw_wI (aw_uI (aw_wI S k g) c f v) k g') c f v' = aw_uI (aw_wI S k g') c f v' := by
  refine aw_ext (fun x i => ?_) (fun x i => rfl) rfl
  simp only [uI_at, wI_at]
  by_cases c0 : x = c
  · subst c0
    by_cases hi : i = f <;> simp [hi, hck]
  · by_cases c1 : x = k
    · subst c1
      simp [c0]
    · simp [c0, c1]
theorem Inv.tape {S S' : aw_S} (h : Inv S) (h0 : ∀ j, j ≠ 2 → S'.1 0 j = S.1 0 j) (hM : ∀ j, j ≠ 10 → S'.1 114 j = S.1 114 j) (hk : ∀ k, k ≠ 0 → k ≠ 114 → k ≠ 10 → k ≠ 120 → S'.1 k = S.1 k) (hL : S'.2.1 = S.2.1) (hR : S'.2.2 = S.2.2) (ht : ∃ n, n ≤ 900 ∧ S'.1 0 2 = nI n ∧ S'.1 114 10 = nI n ∧ ∀ j, j < n → S'.1 10 j = S'.1 120 j ∧ (S'.1 10 j).toInt8.toInt32 = S'.1 10 j) : Inv S' := by
  obtain ⟨i1, i2, i3, i4, i5, i6, i7, i8, i9, i10⟩ := h
  have gg : ∀ a s t, 11 ≤ a → a ≤ 72 → ggR S.1 S.2.1 a s t → ggR S'.1 S'.2.1 a s t := fun a s t h1 h2 hg => hg.fr (fun k q1 q2 => hk k (by omega) (by omega) (by omega) (by omega)) (fun j hj => by rw [hk 115 (by omega) (by omega) (by omega) (by omega)]) (by rw [hL]) (fun d hd => by rw [hL])
  refine ⟨?_, ?_, ?_, ?_, ht, ?_, ?_, ?_, by rw [hR]; exact i9, by rw [hL]; exact i10⟩
  · rw [h0 3 (by omega), hM 2 (by omega)]; exact i1
  · rw [hL]; exact i2
  · rw [h0 4 (by omega), h0 5 (by omega), hM 16 (by omega), hM 17 (by omega)]; exact i3
  · rw [h0 14 (by omega), hM 50 (by omega), hk 98 (by omega) (by omega) (by omega) (by omega), hk 142 (by omega) (by omega) (by omega) (by omega)]; exact i4
  · rw [h0 9 (by omega), hM 51 (by omega)]
    obtain ⟨k, h1, h2, h3, h4⟩ := i6
    exact ⟨k, h1, h2, h3, fun i hi => gg _ _ _ (by omega) (by omega) (h4 i hi)⟩
  · rw [hR]
    obtain ⟨a, b, h1, h2, h3, h4⟩ := i7
    exact ⟨a, b, h1, h2, h3, gg _ _ _ (by omega) (by omega) h4⟩
  · exact i8.fr (fun k hk' => hk k (by omega) (by omega) (by omega) (by omega)) (fun k _ => by rw [hL])
theorem ap4_b {n : Nat} {v : Int32} {g g' : Nat → Int32} {m : Nat} (h : ∀ j, j < m → g j = g' j ∧ (g j).toInt8.toInt32 = g j) : ∀ j, j < m + 4 → (m = n → ap4 n v g 4 j = ap4 n v g' 4 j ∧ (ap4 n v g 4 j).toInt8.toInt32 = ap4 n v g 4 j) := by
  intro j hj e
  subst e
  unfold ap4
  by_cases h2 : m ≤ j ∧ j < m + 4
  · rw [if_pos h2, if_pos h2]
    exact ⟨rfl, btI_b _ _⟩
  · rw [if_neg h2, if_neg h2]
    exact h j (by omega)
theorem ok_feed (l : Launch) : Ok_feed l 0 114 sh0 Inv := by
  intro S hI a b c d e
  obtain ⟨n, hn, e1, e2, ht⟩ := hI.2.2.2.2.1
  have cond : nI n + 20 ≤ 900 ↔ n + 20 ≤ 900 := by
    rw [show (20 : Int32) = nI 20 from rfl, nI_add, show (900 : Int32) = nI 900 from rfl]
    exact nI_leI (by omega) (by omega)
  refine e_Mg_feed rfl ?_
  rw [e1]
  refine ⟨fun q => ?_, fun q => ?_⟩
  · have hn20 := cond.mp q
    refine sp_tapeInt hI.rf (by omega) e1 ?_
    refine sp_tapeInt (n := n + 4) hI.rf (by omega) (by rw [uI_at, if_pos rfl, if_pos rfl]) ?_
    rw [ap_norm _ _ _ _ (by decide), uI_ne _ _ _ (by decide), wI_self]
    refine sp_tapeInt (n := n + 4 + 4) hI.rf (by omega) (by rw [uI_at, if_pos rfl, if_pos rfl]) ?_
    rw [ap_norm _ _ _ _ (by decide), uI_ne _ _ _ (by decide), wI_self]
    refine sp_tapeInt (n := n + 4 + 4 + 4) hI.rf (by omega) (by rw [uI_at, if_pos rfl, if_pos rfl]) ?_
    rw [ap_norm _ _ _ _ (by decide), uI_ne _ _ _ (by decide), wI_self]
    refine sp_tapeInt (n := n + 4 + 4 + 4 + 4) hI.rf (by omega) (by rw [uI_at, if_pos rfl, if_pos rfl]) ?_
    rw [ap_norm _ _ _ _ (by decide), uI_ne _ _ _ (by decide), wI_self]
    generalize hT : aw_uI (aw_wI S 10 (ap4 (n + 4 + 4 + 4 + 4) e (ap4 (n + 4 + 4 + 4) d (ap4 (n + 4 + 4) c (ap4 (n + 4) b (ap4 n a (S.1 10) 4) 4) 4) 4) 4)) 0 2 (nI (n + 4 + 4 + 4 + 4 + 4)) = T
    have e3 : T.1 114 10 = nI n := by
      rw [← hT, uI_ne _ _ _ (by decide), wI_ne _ _ (by decide)]
      exact e2
    have e4 : T.1 120 = S.1 120 := by rw [← hT, uI_ne _ _ _ (by decide), wI_ne _ _ (by decide)]
    have e5 : T.1 10 = ap4 (n + 4 + 4 + 4 + 4) e (ap4 (n + 4 + 4 + 4) d (ap4 (n + 4 + 4) c (ap4 (n + 4) b (ap4 n a (S.1 10) 4) 4) 4) 4) 4 := by rw [← hT, uI_ne _ _ _ (by decide), wI_self]
    have e6 : T.1 0 2 = nI (n + 4 + 4 + 4 + 4 + 4) := by rw [← hT, uI_at, if_pos rfl, if_pos rfl]
    have e7 : ∀ j, j ≠ 2 → T.1 0 j = S.1 0 j := fun j hj => by rw [← hT, uI_at, if_pos rfl, if_neg hj, wI_ne _ _ (by decide)]
    have e8 : ∀ k, k ≠ 0 → k ≠ 10 → T.1 k = S.1 k := fun k h1 h2 => by rw [← hT, uI_ne _ _ _ h1, wI_ne _ _ h2]
    have e9 : T.2 = S.2 := by rw [← hT]; rfl
    have hRT : RefsOk T.2.2 := by rw [e9]; exact hI.rf
    clear hT
    refine e_Md_feed rfl ?_
    rw [e3]
    refine ⟨fun _ => ?_, fun z => absurd q z⟩
    refine sp_four hRT (by omega) e3 ?_
    refine sp_four (n := n + 4) hRT (by omega) (by rw [uI_at, if_pos rfl, if_pos rfl]) ?_
    rw [ap_norm _ _ _ _ (by decide), uI_ne _ _ _ (by decide), wI_self]
    refine sp_four (n := n + 4 + 4) hRT (by omega) (by rw [uI_at, if_pos rfl, if_pos rfl]) ?_
    rw [ap_norm _ _ _ _ (by decide), uI_ne _ _ _ (by decide), wI_self]
    refine sp_four (n := n + 4 + 4 + 4) hRT (by omega) (by rw [uI_at, if_pos rfl, if_pos rfl]) ?_
    rw [ap_norm _ _ _ _ (by decide), uI_ne _ _ _ (by decide), wI_self]
    refine sp_four (n := n + 4 + 4 + 4 + 4) hRT (by omega) (by rw [uI_at, if_pos rfl, if_pos rfl]) ?_
    rw [ap_norm _ _ _ _ (by decide), uI_ne (c := 120) _ _ _ (by decide), wI_self]
    refine ⟨?_, hI.tape ?_ ?_ ?_ ?_ ?_ ⟨n + 4 + 4 + 4 + 4 + 4, by omega, ?_, ?_, fun j hj => ?_⟩⟩
    · rw [e6, uI_at, if_pos rfl, if_pos rfl]
    · intro j hj
      rw [uI_ne _ _ _ (by decide), wI_ne _ _ (by decide)]
      exact e7 j hj
    · intro j hj
      rw [uI_at, if_pos rfl, if_neg hj, wI_ne _ _ (by decide), e8 114 (by decide) (by decide)]
    · intro k h1 h2 h3 h4
      rw [uI_ne _ _ _ h2, wI_ne _ _ h4]
      exact e8 k h1 h3
    · show T.2.1 = S.2.1
      rw [e9]
    · show T.2.2 = S.2.2
      rw [e9]
    · rw [uI_ne _ _ _ (by decide), wI_ne _ _ (by decide)]
      exact e6
    · rw [uI_at, if_pos rfl, if_pos rfl]
    · have g1 := fun j hj => ap4_b (n := n) (v := a) (m := n) ht j hj rfl
      have g2 := fun j hj => ap4_b (n := n + 4) (v := b) (m := n + 4) g1 j hj rfl
      have g3 := fun j hj => ap4_b (n := n + 4 + 4) (v := c) (m := n + 4 + 4) g2 j hj rfl
      have g4 := fun j hj => ap4_b (n := n + 4 + 4 + 4) (v := d) (m := n + 4 + 4 + 4) g3 j hj rfl
      have g5 := fun j hj => ap4_b (n := n + 4 + 4 + 4 + 4) (v := e) (m := n + 4 + 4 + 4 + 4) g4 j hj rfl
      rw [uI_ne _ _ _ (by decide), wI_ne _ _ (by decide), uI_ne _ _ _ (by decide), wI_self, e5, e4]
      exact g5 j hj
  · refine e_Md_feed rfl ?_
    rw [e2]
    exact ⟨fun z => absurd z q, fun _ => ⟨rfl, hI⟩⟩
