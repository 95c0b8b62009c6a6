/-! come -/
set_option maxRecDepth 100000 in
theorem or_w : ∀ w, w < 128 → ∀ k, k < 7 → nI w ||| ((1 : Int32) <<< (nI k &&& 31)) = nI (w ||| 2 ^ k) := by decide +kernel
theorem or_lt {w k : Nat} (hw : w < 128) (hk : k < 7) : w ||| 2 ^ k < 128 := Nat.or_lt_two_pow (n := 7) hw (Nat.pow_lt_pow_right (by decide) hk)
def hmN (std : Nat → Nat) : Nat → Nat
  | 0 => 0
  | k + 1 => if std k = k then hmN std k ||| 2 ^ k else hmN std k
theorem hm_lt (std : Nat → Nat) (k : Nat) : hmN std k < 2 ^ k := by
  induction k with
  | zero => exact Nat.zero_lt_one
  | succ k ih =>
    have h1 : 2 ^ k < 2 ^ (k + 1) := Nat.pow_lt_pow_right (by decide) (Nat.lt_succ_self k)
    unfold hmN
    split
    · exact Nat.or_lt_two_pow (Nat.lt_trans ih h1) h1
    · exact Nat.lt_trans ih h1
theorem hm_128 (std : Nat → Nat) {k : Nat} (hk : k ≤ 7) : hmN std k < 128 := Nat.lt_of_lt_of_le (hm_lt std k) (Nat.pow_le_pow_right (n := 2) (by decide) hk)
def pcN (w : Nat) : Nat := w % 2 + w / 2 % 2 + w / 4 % 2 + w / 8 % 2 + w / 16 % 2 + w / 32 % 2 + w / 64 % 2
set_option maxRecDepth 100000 in
theorem pc_w : ∀ w, w < 128 → w ≠ 0 → nI w &&& (nI w - 1) = nI (w &&& (w - 1)) ∧ (w &&& (w - 1)) < w ∧ pcN w = 1 + pcN (w &&& (w - 1)) := by decide +kernel
set_option maxRecDepth 100000 in
theorem pc_all : ∀ n, n < 8 → ∀ w, w < 2 ^ n → (pcN w = n ↔ w = 2 ^ n - 1) := by decide +kernel
theorem pc_le (w : Nat) : pcN w ≤ 7 := by
  unfold pcN
  omega
theorem full_w : ∀ n, n < 8 → ((1 : Int32) <<< (nI n &&& 31)) - 1 = nI (2 ^ n - 1) := by decide +kernel
section CO
variable {l : Launch} {d : Nat} {sh : aw_SH} {S : aw_S} {g : GM}
theorem sp_Md_bits {P : Int32 → aw_S → Prop} {w : Nat} (hw : w < 128) (h : P (nI (pcN w)) S) : Sp l m_Md_bits (d + 1) 0 0 [.int (nI w)] sh S (gI sh P) := by
  refine e_Md_bits ?_
  have key : ∀ n w c, w < n → w < 128 → P (nI (c + pcN w)) S → AW l m_Md_bits (d + 1) 0 0 (gI sh P) 0 0 4 [.null, .int (nI c), .int (nI w)] [] sh S := by
    intro n
    induction n with
    | zero => exact fun w c h => absurd h (Nat.not_lt_zero w)
    | succ n ih =>
      intro w c h1 h2 hp
      by_cases e : w = 0
      · subst e
        exact s_Md_bits_4 ⟨fun _ => hp, fun q => absurd rfl q⟩
      · obtain ⟨a1, a2, a3⟩ := pc_w w h2 e
        refine s_Md_bits_4 ⟨fun q => absurd q (nI_ne0 (by omega) (by omega)), fun _ => ?_⟩
        rw [a1, nI_1]
        refine ih _ _ (by omega) (by omega) ?_
        rw [a3] at hp
        rw [show c + 1 + pcN (w &&& (w - 1)) = c + (1 + pcN (w &&& (w - 1))) by omega]
        exact hp
  have := key (w + 1) w 0 (by omega) hw
  rw [Nat.zero_add] at this
  exact this h
theorem sp_Md_atHome {P : Int32 → aw_S → Prop} (hS : MdS sh S.2.2) (hb : bdG g) (H : MdG S.1 0 g) (h : P (nI (hmN g.std g.n)) S) : Sp l m_Md_atHome (d + 1) 0 0 [.ref 114] sh S (gI sh P) := by
  have hn : g.n ≤ 7 := hb.1
  have y0 := H.1
  refine e_Md_atHome hS.1 ?_
  have key : ∀ j k, k + j = g.n → AW l m_Md_atHome (d + 1) 0 0 (gI sh P) 0 0 4 [.ref 114, .int (nI (hmN g.std k)), .int (nI k)] [] sh S := by
    intro j
    induction j with
    | zero =>
      intro k hk
      have hk : k = g.n := hk
      subst hk
      refine s_Md_atHome_4 hS.1 ⟨115, hS.2.1, 3864, hS.2.2, vp_in_nI (n := 0) (by omega) (by omega), ?_⟩
      show ((S.1 115 0 ≤ _ → _) ∧ (¬ S.1 115 0 ≤ _ → _))
      rw [y0]
      exact ⟨fun _ => h, fun q => absurd (nI_le (Nat.le_refl _) (by omega)) q⟩
    | succ j ih =>
      intro k hk
      have e := ih (k + 1) (by omega)
      have y6 := H.2.2.2.2.2.2 k (by omega)
      rw [Nat.zero_add] at y6
      have hst := hb.2.2.2.2.2.2.2.1 k (by omega)
      refine s_Md_atHome_4 hS.1 ⟨115, hS.2.1, 3864, hS.2.2, vp_in_nI (n := 0) (by omega) (by omega), ?_⟩
      show ((S.1 115 0 ≤ _ → _) ∧ (¬ S.1 115 0 ≤ _ → _))
      rw [y0]
      refine ⟨fun q => absurd q (nI_ge (by omega) (by omega)), fun _ => ?_⟩
      rw [nB17, nI_clamp (by omega), y6, nI_1, or_w _ (hm_128 g.std (by omega)) k (by omega)]
      unfold hmN at e
      refine ⟨vp_in_nI (by omega) (by omega), fun q => ?_, fun q => ?_⟩
      · rw [if_neg (fun z => q (by rw [z]))] at e
        rw [Int32.or_zero]
        exact e
      · rw [if_pos ((nI_inj (by omega) (by omega)).mp q)] at e
        exact e
  exact key g.n 0 (by omega)
theorem sp_Gr_atHome {P : Int32 → aw_S → Prop} {a : Nat} (hS : GrS sh S.2.2 a) (hb : bdG g) (H : GrG S.1 a g) (h : P (nI (hmN g.std g.n)) S) : Sp l m_Gr_atHome (d + 1) 0 0 [.ref a] sh S (gI sh P) := by
  have hn : g.n ≤ 7 := hb.1
  have y0 := H.1
  refine e_Gr_atHome hS.sa ?_
  have key : ∀ j k, k + j = g.n → AW l m_Gr_atHome (d + 1) 0 0 (gI sh P) 0 0 4 [.ref a, .int (nI (hmN g.std k)), .int (nI k)] [] sh S := by
    intro j
    induction j with
    | zero =>
      intro k hk
      have hk : k = g.n := hk
      subst hk
      refine s_Gr_atHome_4 hS.sa ?_
      rw [y0]
      exact ⟨fun _ => h, fun q => absurd (nI_le (Nat.le_refl _) (by omega)) q⟩
    | succ j ih =>
      intro k hk
      have e := ih (k + 1) (by omega)
      obtain ⟨p, hp, ep⟩ := std_inv hb (show k < g.n by omega)
      have y6 := (H.2.2.2.2.2.2.1 p hp).2
      rw [ep] at y6
      refine s_Gr_atHome_4 hS.sa ?_
      rw [y0]
      refine ⟨fun q => absurd q (nI_ge (by omega) (by omega)), fun _ => ⟨a + 3, hS.r7, 7, hS.s3, vp_in_nI (by omega) (by omega), ?_⟩⟩
      rw [nI_clamp (by omega), y6, nI_1, or_w _ (hm_128 g.std (by omega)) k (by omega)]
      unfold hmN at e
      refine ⟨fun q => ?_, fun q => ?_⟩
      · rw [if_neg (fun z => q ?_)] at e
        · exact e
        · rw [hb.2.2.2.2.2.2.2.2 p k hp (by omega) (ep.trans z.symm)]
      · have epk : p = k := (nI_inj (by omega) (by omega)).mp q
        rw [epk] at ep
        rw [if_pos ep] at e
        exact e
  exact key g.n 0 (by omega)
/-- one more dancer -/
def jnG (g : GM) (c : Nat) : GM := (g.n + 1, g.od, g.lg, g.m, g.f, upN g.col g.n c, upN g.std g.n g.n)
def jnS (S : aw_S) (a n : Nat) (name : Int64) (c : Int32) : aw_S := aw_uI (aw_uI (aw_uI (aw_uI (aw_uI (aw_uL S (a + 1) n name) (a + 2) n c) (a + 3) n (nI n)) (a + 4) n 0) (a + 5) n (nI n)) a 0 (nI (n + 1))
theorem us_0 {g : GM} (hb : bdG g) : ∀ k, k ≤ g.m → usN g.f g.n k = 0 := by
  intro k
  induction k with
  | zero => exact fun _ => rfl
  | succ k ih =>
    intro hk
    obtain ⟨-, -, h3, h4, -⟩ := hb.2.2.2.2.2.1 k hk
    rw [us_s, ih (by omega)]
    unfold iN
    rw [if_neg (by omega)]
theorem upN_lt {f : Nat → Nat} {n v i : Nat} (h : i ≠ n) : upN f n v i = f i := if_neg h
theorem upN_self {f : Nat → Nat} {n v : Nat} : upN f n v n = v := if_pos rfl
theorem bdG.jn {c : Nat} (hb : bdG g) (hn : g.n < 7) (hc : c ≤ 5) (hm : g.m = 0) : bdG (jnG g c) := by
  obtain ⟨b1, b2, b3, b4, b5, b6, b7, b8, b9⟩ := hb
  refine ⟨hn, b2, b3, b4, b5, fun k hk => absurd hk (by show ¬ k < g.m; omega), fun e he => ?_, fun p hp => ?_, fun p q hp hq => ?_⟩
  · have he : e < g.n + 1 := he
    show upN g.col g.n c e ≤ 5
    unfold upN
    split
    · exact hc
    · exact b7 e (by omega)
  · have hp : p < g.n + 1 := hp
    show upN g.std g.n g.n p < g.n + 1
    unfold upN
    split
    · omega
    · have := b8 p (by omega)
      omega
  · have hp : p < g.n + 1 := hp
    have hq : q < g.n + 1 := hq
    show upN g.std g.n g.n p = upN g.std g.n g.n q → p = q
    unfold upN
    have a1 := b8 p
    have a2 := b8 q
    have a3 := b9 p q
    split <;> split <;> intro z
    · omega
    · have := a2 (by omega)
      omega
    · have := a1 (by omega)
      omega
    · exact a3 (by omega) (by omega) z
theorem GrG.jn {a c : Nat} {name : Int64} (hb : bdG g) (H : GrG S.1 a g) : GrG (jnS S a g.n name (nI c)).1 a (jnG g c) := by
  obtain ⟨b1, b2, b3, b4, b5, b6, b7, b8, b9⟩ := id hb
  obtain ⟨y0, y1, y2, y3, y4, y5, y6, y7⟩ := H
  have e : ∀ k i, (jnS S a g.n name (nI c)).1 k i = if k = a then (if i = 0 then nI (g.n + 1) else S.1 a i) else if k = a + 5 then (if i = g.n then nI g.n else S.1 (a + 5) i) else if k = a + 4 then (if i = g.n then 0 else S.1 (a + 4) i) else if k = a + 3 then (if i = g.n then nI g.n else S.1 (a + 3) i) else if k = a + 2 then (if i = g.n then nI c else S.1 (a + 2) i) else S.1 k i := by
    intro k i
    unfold jnS
    simp only [uI_at, uL_I]
    simp only [show ¬ a = a + 5 by omega, show ¬ a = a + 4 by omega, show ¬ a = a + 3 by omega, show ¬ a = a + 2 by omega, show ¬ a + 5 = a + 4 by omega, show ¬ a + 5 = a + 3 by omega, show ¬ a + 5 = a + 2 by omega, show ¬ a + 4 = a + 3 by omega, show ¬ a + 4 = a + 2 by omega, show ¬ a + 3 = a + 2 by omega, if_false]
  refine ⟨?_, ?_, ?_, ?_, ?_, fun c' hc => ?_, fun p hp => ?_, fun w hw => ?_⟩
  · rw [e, if_pos rfl, if_pos rfl]
    rfl
  · rw [e, if_pos rfl, if_neg (by omega)]; exact y1
  · rw [e, if_pos rfl, if_neg (by omega)]; exact y2
  · rw [e, if_neg (by omega), if_neg (by omega), if_neg (by omega), if_neg (by omega), if_neg (by omega)]; exact y3
  · intro k hk
    rw [e, if_neg (by omega), if_neg (by omega), if_neg (by omega), if_neg (by omega), if_neg (by omega)]; exact y4 k hk
  · have hc : c' < g.n + 1 := hc
    rw [e, if_neg (by omega), if_neg (by omega), if_neg (by omega), if_neg (by omega), if_pos rfl]
    show _ = nI (upN g.col g.n c c')
    unfold upN
    by_cases q : c' = g.n
    · rw [if_pos q, if_pos q]
    · rw [if_neg q, if_neg q]; exact y5 c' (by omega)
  · have hp : p < g.n + 1 := hp
    show _ = nI (upN g.std g.n g.n p) ∧ _ = nI p
    by_cases q : p = g.n
    · subst q
      show _ ∧ (jnS S a g.n name (nI c)).1 (a + 3) (upN g.std g.n g.n g.n) = _
      rw [upN_self, e, e, if_neg (by omega), if_pos rfl, if_pos rfl, if_neg (by omega), if_neg (by omega), if_neg (by omega), if_pos rfl, if_pos rfl]
      exact ⟨rfl, rfl⟩
    · have := b8 p (by omega)
      show _ ∧ (jnS S a g.n name (nI c)).1 (a + 3) (upN g.std g.n g.n p) = _
      rw [upN_lt q, e, e, if_neg (by omega), if_pos rfl, if_neg q, if_neg (by omega), if_neg (by omega), if_neg (by omega), if_pos rfl, if_neg (by omega)]
      exact y6 p (by omega)
  · have hw : w < g.n + 1 := hw
    rw [e, if_neg (by omega), if_neg (by omega), if_pos rfl]
    show _ = nI (usN g.f w g.m)
    by_cases q : w = g.n
    · rw [if_pos q, q, us_0 hb g.m (Nat.le_refl _)]
      rfl
    · rw [if_neg q]; exact y7 w (by omega)
theorem sp_Gr_join {P : aw_S → Prop} {a n : Nat} {name : Int64} {c : Int32} (hS : GrS sh S.2.2 a) (hn : n < 7) (h0 : S.1 a 0 = nI n) (h : P (jnS S a n name c)) : Sp l m_Gr_join (d + 1) 0 0 [.ref a, .long name, .int c] sh S (gV sh P) := by
  refine e_Gr_join hS.sa ?_
  rw [h0]
  refine ⟨fun _ => ⟨a + 1, hS.r5, 7, hS.s1, vp_in_nI (by omega) (by omega), a + 2, hS.r6, 7, hS.s2, ?_⟩, fun q => absurd (nI_lt (b := 7) hn (by omega)) q⟩
  simp only [uL_I, h0, nI_clamp (show n < 2 ^ 31 by omega)]
  refine ⟨vp_in_nI (by omega) (by omega), a + 3, hS.r7, 7, hS.s3, ?_⟩
  simp only [uI_ne _ _ _ (show a ≠ a + 2 by omega), uL_I, h0, nI_clamp (show n < 2 ^ 31 by omega)]
  refine ⟨vp_in_nI (by omega) (by omega), a + 4, hS.r8, 7, hS.s4, ?_⟩
  simp only [uI_ne _ _ _ (show a ≠ a + 3 by omega), uI_ne _ _ _ (show a ≠ a + 2 by omega), uL_I, h0, nI_clamp (show n < 2 ^ 31 by omega)]
  refine ⟨vp_in_nI (by omega) (by omega), a + 5, hS.r9, 7, hS.s5, ?_⟩
  simp only [uI_ne _ _ _ (show a ≠ a + 4 by omega), uI_ne _ _ _ (show a ≠ a + 5 by omega), uI_ne _ _ _ (show a ≠ a + 3 by omega), uI_ne _ _ _ (show a ≠ a + 2 by omega), uL_I, h0, nI_clamp (show n < 2 ^ 31 by omega), nI_1]
  exact ⟨vp_in_nI (by omega) (by omega), h⟩
end CO
