/-! fits, fitsAt, ask: the calls -/
def LkF (S : aw_S) (a b : Nat) (g : GM) (n k : Nat) (G C : Nat → Nat) (U : aw_S) : Prop := (∀ c j, ¬ ((b ≤ c ∧ c < b + 15) ∨ (99 ≤ c ∧ c ≤ 113)) → U.1 c j = S.1 c j) ∧ (∀ c j, c ≠ b + 1 → U.2.1 c j = S.2.1 c j) ∧ RefsOk U.2.2 ∧ U.2.2 0 6 = some a ∧ U.2.2 0 7 = some b ∧ U.1 102 3 = nI (gpN g.n) ∧ ∃ pr f0, XI (okM n G C) g 0 k 0 (fun _ _ => 0) 102 0 108 103 pr f0 U.1
theorem look_ok {l : Launch} {S : aw_S} {a b : Nat} {g : GM} {t n k : Nat} {G C : Nat → Nat} {Q : aw_S → Prop} (hI : Inv S) (N : NowI S a b g) (ht : t < 4) (hn20 : n ≤ 20) (hk : k ≤ 4) (hG : ∀ i, i < n → G i < gpN g.n ∧ C i ≤ 6) (hV : ∀ i, i < n → S.2.1 (3 + 2 * t) (2 * i) = lN (G i) ∧ S.2.1 (3 + 2 * t) (2 * i + 1) = lN (C i)) (h : ∀ U, LkF S a b g n k G C U → Q U) : ∃ r4, S.2.2 0 16 = some r4 ∧ ∃ r5, S.2.2 0 0 = some r5 ∧ ∃ n7, sh0[r5]? = some (5, n7) ∧ vp_in (nI t) n7 ∧ ∃ r9, S.2.2 r5 (nI t : Int32).toNatClampNeg = some r9 ∧ Sp l m_Mg_trial 199 0 0 [.ref 0] sh0 S (gR sh0 (fun x11 S10 => sh0[r4]? = some (0, 9) ∧ Sp l m_Ou_search 199 0 0 [.ref r4, .ref r9, .int (nI n), .ref x11, .int (nI k)] sh0 S10 (gV sh0 Q))) := by
  have hab := N.ab
  obtain ⟨n1, n2, n3, n4, n5, n6, n7, n8, n9, n10⟩ := id N
  obtain ⟨g1, g2⟩ := rf_tray hI.rf ht
  refine ⟨102, hI.rf.at (by decide), 1, hI.rf.at (by decide), 4, rfl, vp_in_nI (by omega) (by omega), 2 + 2 * t, by rw [nI_clamp (by omega)]; exact g1, sp_trial (d := 196) hI.rf N (fun S1 CP G1 => ⟨rfl, ?_⟩)⟩
  obtain ⟨c1, c2, c3, c4, c5⟩ := CP
  have hR1 : RefsOk S1.2.2 := by rw [c3]; exact hI.rf
  refine sp_search (D := 199) (by omega) (by omega) ht hn20 hk hR1 n4 n5 G1 hG (fun i hi => by rw [c2 _ _ (by omega), c2 _ _ (by omega)]; exact hV i hi) (fun U pr f0 u1 u2 u3 u4 u5 => h U ⟨fun c j q => ?_, fun c j q => ?_, ?_, ?_, ?_, u4, pr, f0, u5⟩)
  · rw [u1 c j (by unfold SrX OX GX; omega), c1 c j (by omega)]
  · rw [u2, c2 c j q]
  · rw [u3]; exact hR1.uR _ (by decide)
  · rw [u3, uR_at, if_neg (by omega), c3]; exact n1
  · rw [u3, uR_at, if_neg (by omega), c3]; exact n2
/-- the reference behind it -/
theorem look_md {l : Launch} {S U : aw_S} {a b : Nat} {g : GM} {t n k : Nat} {G C : Nat → Nat} {Q : aw_S → Prop} {s : Int32} (hI : Inv S) (N : NowI S a b g) (ht : t < 4) (hn20 : n ≤ 20) (hk : k ≤ 4) (hG : ∀ i, i < n → G i < gpN g.n ∧ C i ≤ 6) (hV : ∀ i, i < n → S.2.1 119 (60 * t + 2 * i) = lN (G i) ∧ S.2.1 119 (60 * t + 2 * i + 1) = lN (C i)) (u1 : ∀ c j, ¬ ((b ≤ c ∧ c < b + 15) ∨ (99 ≤ c ∧ c ≤ 113)) → U.1 c j = S.1 c j) (u2 : ∀ c j, c ≠ b + 1 → U.2.1 c j = S.2.1 c j) (u3 : RefsOk U.2.2) (u4 : U.2.2 0 6 = some a) (u5 : U.2.2 0 7 = some b)
    (h : ∀ V, RefsOk V.2.2 → V.1 115 0 = nI g.n → (∀ s', s' = s → Inv (aw_uI V 114 2 s')) → (∃ pr f0, XI (okM n G C) g 0 k 0 (fun _ _ => 0) 114 39 134 133 pr f0 V.1) → Q V) : Sp l m_Md_laysRowsSeen 199 0 0 [.ref 114, .int (nI t), .int (nI n), .int (nI k)] sh0 (aw_uI U 0 3 s) (gV sh0 Q) := by
  have hab := N.ab
  obtain ⟨n1, n2, n3, n4, n5, n6, n7, n8, n9, n10⟩ := id N
  have M2 : MdG (aw_uI U 0 3 s).1 0 g := n7.fr n4.1 n4.2.2.2.2.1 (fun j _ => by rw [uI_ne _ _ _ (by omega), u1 115 _ (by omega)])
  refine sp_laysRowsSeen (d := 194) (G := G) (C := C) ht hn20 hk (by rw [uI_R]; exact u3) n4 n5 M2 ⟨hG, fun i hi => ?_⟩ (fun V FV XV => h V ?_ ?_ (fun s' hs => ?_) ⟨_, _, XV⟩)
  · rw [uI_L, u2 _ _ (by omega), u2 _ _ (by omega)]; exact hV i hi
  · rw [FV.R, uI_R]; exact u3
  · rw [FV.1 115 0 (by unfold PlX; omega)]; exact M2.1
  · subst hs
    exact hI.spr N u1 u2 u3 u4 u5 FV
theorem ok_fits (l : Launch) : Ok_fits l 0 114 sh0 Inv := by
  intro S hI x y z
  obtain ⟨a, b, g, N⟩ := hI.now
  have hab := N.2.2.1
  rcases seen_cases (l := l) hI N x y z with ⟨e, e1, e2, k1, k2⟩ | ⟨t, n, k, G, C, ht, hn20, hk, rfl, rfl, rfl, hG, hV, hM, k1, k2⟩
  · refine e_Mg_fits rfl (k1 _ ⟨fun q => absurd q e1, fun _ => e_Mg_fail rfl (e_Md_fits rfl (k2 e _ ⟨fun q => absurd q e2, fun _ => e_Md_refuse rfl ⟨rfl, hI.st rfl⟩⟩))⟩)
  · refine e_Mg_fits rfl (k1 _ ⟨fun _ => look_ok hI N ht hn20 hk hG hV (fun U LU => ?_), fun q => absurd rfl q⟩)
    obtain ⟨u1, u2, u3, u4, u5, u6, pr, f0, X⟩ := LU
    refine ⟨102, u3.at (by decide), rfl, ?_⟩
    rw [X.1]
    refine e_Mg_give rfl (e_Md_fits rfl (k2 _ _ (by rw [uI_R]; exact u3) (funext fun j => by rw [uI_L]; exact u2 119 j (by omega)) (funext fun j => by rw [uI_ne _ _ _ (by omega)]; exact u1 118 j (by omega)) (by rw [uI_ne _ _ _ (by omega)]; exact u1 115 0 (by omega)) ⟨fun _ => look_md hI N ht hn20 hk hG hM u1 u2 u3 u4 u5 (fun V v1 v2 v3 v4 => ?_), fun q => absurd (by decide) q⟩))
    obtain ⟨pr', f0', Y⟩ := v4
    rw [Y.1]
    exact e_Md_gives rfl ⟨rfl, v3 0 rfl⟩
theorem ok_fitsAt (l : Launch) : Ok_fitsAt l 0 114 sh0 Inv := by
  intro S hI x y z v
  obtain ⟨a, b, g, N⟩ := hI.now
  have hab := N.2.2.1
  have n4 := N.2.2.2.1
  have n5 := N.2.2.2.2.1
  by_cases c0 : 0 ≤ v
  · rcases seen_cases (l := l) hI N x y z with ⟨e, e1, e2, k1, k2⟩ | ⟨t, n, k, G, C, ht, hn20, hk, rfl, rfl, rfl, hG, hV, hM, k1, k2⟩
    · refine e_Mg_fitsAt rfl ⟨fun _ => k1 _ ⟨fun q => absurd q e1, fun _ => e_Mg_fail rfl (e_Md_fitsAt rfl ⟨fun _ => k2 e _ ⟨fun q => absurd q e2, fun _ => e_Md_refuse rfl ⟨rfl, hI.st rfl⟩⟩, fun q => absurd c0 q⟩)⟩, fun q => absurd c0 q⟩
    · refine e_Mg_fitsAt rfl ⟨fun _ => k1 _ ⟨fun _ => ⟨fun q => ?_, fun q => ?_⟩, fun q => absurd rfl q⟩, fun q => absurd c0 q⟩
      · obtain ⟨p, hp, rfl⟩ : ∃ p, p < k ∧ v = nI p := by
          have hv : v ≤ nI k := Int32.le_of_lt q
          obtain ⟨p, hp, rfl⟩ := le_ge (n := k) (by rw [show (nI k).toInt = k from by
            have : k = 0 ∨ k = 1 ∨ k = 2 ∨ k = 3 ∨ k = 4 := by omega
            rcases this with rfl | rfl | rfl | rfl | rfl <;> decide]) ⟨c0, hv⟩
          exact ⟨p, (nI_ltI (by omega) (by omega)).mp q, rfl⟩
        refine look_ok hI N ht hn20 hk hG hV (fun U LU => ?_)
        obtain ⟨u1, u2, u3, u4, u5, u6, pr, f0, X⟩ := LU
        have hrl := rows_le (ok := okM n G C) k g n4 n5
        have h14 : 14 ^ k ≤ 14 ^ 4 := Nat.pow_le_pow_right (by decide) hk
        have h14' : (14 : Nat) ^ 4 = 38416 := by decide
        have kk : ∀ s (P : Int32 → aw_S → Prop), P 0 (aw_uI U 0 3 s) → Sp l m_Md_wrongSeen 199 0 0 [.ref 114, .int (nI t), .int (nI n), .int (nI k)] sh0 (aw_uI U 0 3 s) (gI sh0 P) := fun s P hP => k2 _ _ (by rw [uI_R]; exact u3) (funext fun j => by rw [uI_L]; exact u2 119 j (by omega)) (funext fun j => by rw [uI_ne _ _ _ (by omega)]; exact u1 118 j (by omega)) (by rw [uI_ne _ _ _ (by omega)]; exact u1 115 0 (by omega)) hP
        refine ⟨102, u3.at (by decide), rfl, ?_⟩
        rw [X.1, Nat.zero_add]
        refine ⟨fun q2 => ⟨103, u3.at (by decide), 4, rfl, vp_in_nI (by omega) (by omega), ?_⟩, fun q2 => e_Mg_fail rfl (e_Md_fitsAt rfl ⟨fun _ => kk 6 _ ⟨fun _ => look_md hI N ht hn20 hk hG hM u1 u2 u3 u4 u5 (fun V v1 v2 v3 v4 => ?_), fun q => absurd (by decide) q⟩, fun q => absurd c0 q⟩)⟩
        · have r0 : rowsN (okM n G C) k g ≠ 0 := fun z => q2 (by rw [z]; rfl)
          obtain ⟨p1, f1, -, f3⟩ := X.2.2.2 rfl r0
          have ev : U.1 103 (nI p : Int32).toNatClampNeg = nI (p1 p) := by
            rw [nI_clamp (by omega)]
            have := f3 p hp
            rw [Nat.zero_add] at this
            exact this
          rw [ev]
          refine e_Mg_give rfl (e_Md_fitsAt rfl ⟨fun _ => kk 0 _ ⟨fun _ => look_md hI N ht hn20 hk hG hM u1 u2 u3 u4 u5 (fun V v1 v2 v3 v4 => ?_), fun q => absurd (by decide) q⟩, fun q => absurd c0 q⟩)
          obtain ⟨pr', f0', Y⟩ := v4
          rw [Y.1, Nat.zero_add]
          refine ⟨fun q3 => absurd q3 q2, fun _ => ⟨fun _ => ⟨133, v1.at (by decide), 4, rfl, vp_in_nI (by omega) (by omega), ?_⟩, fun q3 => absurd q q3⟩⟩
          obtain ⟨p2, d1, -, d3⟩ := Y.2.2.2 rfl r0
          have ev2 : V.1 133 (nI p : Int32).toNatClampNeg = nI (p2 p) := by
            rw [nI_clamp (by omega)]
            have := d3 p hp
            rw [Nat.zero_add] at this
            exact this
          rw [ev2, ← FR.eq f1 d1 p hp]
          exact e_Md_gives rfl ⟨rfl, v3 0 rfl⟩
        · obtain ⟨pr', f0', Y⟩ := v4
          rw [Y.1, Nat.zero_add]
          exact ⟨fun _ => e_Md_refuse rfl ⟨rfl, v3 6 rfl⟩, fun q3 => absurd q2 q3⟩
      · refine e_Mg_fail rfl (e_Md_fitsAt rfl ⟨fun _ => k2 _ _ (by rw [uI_R]; exact hI.rf) (by rw [uI_L]) (by rw [uI_ne _ _ _ (by omega)]) (by rw [uI_ne _ _ _ (by omega)]) ⟨fun _ => look_md hI N ht hn20 hk hG hM (fun _ _ _ => rfl) (fun _ _ _ => rfl) hI.rf N.1 N.2.1 (fun V v1 v2 v3 v4 => ?_), fun q => absurd (by decide) q⟩, fun q => absurd c0 q⟩)
        exact ⟨fun _ => e_Md_refuse rfl ⟨rfl, v3 6 rfl⟩, fun _ => ⟨fun q3 => absurd q3 q, fun _ => e_Md_refuse rfl ⟨rfl, v3 6 rfl⟩⟩⟩
  · exact e_Mg_fitsAt rfl ⟨fun q => absurd q c0, fun _ => e_Mg_fail rfl (e_Md_fitsAt rfl ⟨fun q => absurd q c0, fun _ => e_Md_refuse rfl ⟨rfl, hI.st rfl⟩⟩)⟩
/-- the most alike of a gap, and the gap that parts best -/
def mxF (T : Nat → Nat → Nat) (gap : Nat) : Nat → Nat
  | 0 => 0
  | c + 1 => max (mxF T gap c) (T gap c)
def bgF (m : Nat → Nat) (R : Nat) : Nat → Int32 × Nat
  | 0 => (-1, R)
  | y + 1 => if m y < (bgF m R y).2 then (nI y, m y) else bgF m R y
theorem mx_lt {T : Nat → Nat → Nat} {gap B : Nat} (hB : 0 < B) : ∀ c, (∀ i, i < c → T gap i < B) → mxF T gap c < B := by
  intro c
  induction c with
  | zero => intro _; exact hB
  | succ c ih =>
    intro h
    have h1 := ih (fun i hi => h i (by omega))
    have h2 := h c (by omega)
    unfold mxF
    omega
theorem bg_lt {m : Nat → Nat} {R B : Nat} (hR : R < B) : ∀ y, (∀ i, i < y → m i < B) → (bgF m R y).2 < B := by
  intro y
  induction y with
  | zero => intro _; exact hR
  | succ y ih =>
    intro h
    have h1 := ih (fun i hi => h i (by omega))
    have h2 := h y (by omega)
    unfold bgF
    split
    · exact h2
    · exact h1
section AK
variable {l : Launch} {d : Nat} {S : aw_S} {gp R : Nat} {T : Nat → Nat → Nat}
theorem sp_partingGap {P : Int32 → aw_S → Prop} (hR : RefsOk S.2.2) (hg : gp ≤ 7) (hRb : R < 2 ^ 20) (hTb : ∀ gap c, gap < gp → c ≤ 6 → T gap c < 2 ^ 20) (h3 : S.1 102 3 = nI gp) (h0 : S.1 102 0 = nI R) (hT : ∀ gap c, gap < gp → c ≤ 6 → S.1 108 (7 * gap + c) = nI (T gap c)) (h : P (bgF (fun gap => mxF T gap 7) R gp).1 S) : Sp l m_Ou_partingGap (d + 1 + 1) 0 0 [.ref 102] sh0 S (gI sh0 P) := by
  have hmx : ∀ gap c, gap < gp → c ≤ 7 → mxF T gap c < 2 ^ 20 := fun gap c hg hc => mx_lt (by decide) c (fun i hi => hTb gap i hg (by omega))
  have hbg : ∀ y, y ≤ gp → (bgF (fun gap => mxF T gap 7) R y).2 < 2 ^ 20 := fun y hy => bg_lt hRb y (fun i hi => hmx i 7 (by omega) (by omega))
  have key : ∀ j y, y + j = gp → AW l m_Ou_partingGap (d + 1 + 1) 0 0 (gI sh0 P) 0 0 9 [.ref 102, .int (bgF (fun gap => mxF T gap 7) R y).1, .int (nI (bgF (fun gap => mxF T gap 7) R y).2), .int (nI y), .null, .null] [] sh0 S := by
    intro j
    induction j with
    | zero =>
      intro y hy
      have hy : y = gp := hy
      subst hy
      refine s_Ou_partingGap_9 rfl ?_
      rw [h3]
      exact ⟨fun _ => h, fun q => absurd (nI_le (Nat.le_refl _) (by omega)) q⟩
    | succ j ih =>
      intro y hy
      have hn := ih (y + 1) (by omega)
      have hb1 := hbg y (by omega)
      have hm7 := hmx y 7 (by omega) (by omega)
      refine s_Ou_partingGap_9 rfl ?_
      rw [h3]
      refine ⟨fun q => absurd q (nI_ge (by omega) (by omega)), fun _ => ?_⟩
      have key2 : ∀ i c, c + i = 7 → AW l m_Ou_partingGap (d + 1 + 1) 0 0 (gI sh0 P) 0 0 23 [.ref 102, .int (bgF (fun gap => mxF T gap 7) R y).1, .int (nI (bgF (fun gap => mxF T gap 7) R y).2), .int (nI y), .int (nI (mxF T y c)), .int (nI c)] [] sh0 S := by
        intro i
        induction i with
        | zero =>
          intro c hc
          have hc : c = 7 := hc
          subst hc
          refine s_Ou_partingGap_23 rfl ⟨fun _ => ?_, fun q => absurd (by decide) q⟩
          rw [nI_1]
          refine ⟨fun q => ?_, fun q => ?_⟩
          · have : ¬ mxF T y 7 < (bgF (fun gap => mxF T gap 7) R y).2 := by
              have := (nI_leI (by omega) (by omega)).mp q
              omega
            have e : bgF (fun gap => mxF T gap 7) R (y + 1) = bgF (fun gap => mxF T gap 7) R y := by
              conv => lhs; unfold bgF
              exact if_neg this
            rw [e] at hn
            exact hn
          · have : mxF T y 7 < (bgF (fun gap => mxF T gap 7) R y).2 := by
              have : ¬ (bgF (fun gap => mxF T gap 7) R y).2 ≤ mxF T y 7 := fun z => q (nI_le z (by omega))
              omega
            have e : bgF (fun gap => mxF T gap 7) R (y + 1) = (nI y, mxF T y 7) := by
              conv => lhs; unfold bgF
              exact if_pos this
            rw [e] at hn
            exact hn
        | succ i ihc =>
          intro c hc
          have hmc := hmx y c (by omega) (by omega)
          have htc := hTb y c (by omega) (by omega)
          have e7 : nI y * 7 + nI c = nI (7 * y + c) := by rw [show (7 : Int32) = nI 7 from rfl, pk_mul, nI_add, Nat.mul_comm]
          refine s_Ou_partingGap_23 rfl ⟨fun q => absurd ((nI_ltI (a := 6) (by omega) (by omega)).mp q) (by omega), fun _ => ⟨108, hR.at (by decide), e_Ou_cell ⟨49, rfl, ?_⟩⟩⟩
          rw [e7, nI_clamp (by omega), hT y c (by omega) (by omega), nI_1]
          exact ⟨vp_in_nI (by omega) (by omega), sp_maxN (by omega) (by omega) (ihc (c + 1) (by omega))⟩
      exact key2 7 0 (by omega)
  refine e_Ou_partingGap rfl ?_
  rw [h0]
  exact key gp 0 (by omega)
theorem sp_mostAlike {P : Int32 → aw_S → Prop} {y : Nat} (hR : RefsOk S.2.2) (hy : y < 7) (hTb : ∀ c, c ≤ 6 → T y c < 2 ^ 20) (hT : ∀ c, c ≤ 6 → S.1 134 (7 * y + c) = nI (T y c)) (h : P (nI (mxF T y 7)) S) : Sp l m_Md_mostAlike (d + 1 + 1) 0 0 [.ref 114, .int (nI y)] sh0 S (gI sh0 P) := by
  have key2 : ∀ i c, c + i = 7 → AW l m_Md_mostAlike (d + 1 + 1) 0 0 (gI sh0 P) 0 0 4 [.ref 114, .int (nI y), .int (nI (mxF T y c)), .int (nI c)] [] sh0 S := by
    intro i
    induction i with
    | zero =>
      intro c hc
      have hc : c = 7 := hc
      subst hc
      exact s_Md_mostAlike_4 rfl ⟨fun _ => h, fun q => absurd (by decide) q⟩
    | succ i ihc =>
      intro c hc
      have hmc : mxF T y c < 2 ^ 20 := mx_lt (by decide) c (fun i hi => hTb i (by omega))
      have htc := hTb c (by omega)
      refine s_Md_mostAlike_4 rfl ⟨fun q => absurd ((nI_leI (a := 7) (by omega) (by omega)).mp q) (by omega), fun _ => ⟨134, hR.at (by decide), 49, rfl, ?_, ?_⟩⟩
      · rw [n7a]; exact vp_in_nI (by omega) (by omega)
      · rw [n7a, nI_clamp (by omega), hT c (by omega), nI_1]
        exact sp_maxN (by omega) (by omega) (ihc (c + 1) (by omega))
  exact e_Md_mostAlike rfl (key2 7 0 (by omega))
end AK
theorem ok_ask (l : Launch) : Ok_ask l 0 114 sh0 Inv := by
  intro S hI x y z
  obtain ⟨a, b, g, N⟩ := hI.now
  have hab := N.2.2.1
  have n4 := N.2.2.2.1
  have n5 := N.2.2.2.2.1
  have hn : g.n ≤ 7 := n4.1
  have hgp := gp_le g.n
  rcases seen_cases (l := l) hI N x y z with ⟨e, e1, e2, k1, k2⟩ | ⟨t, n, k, G, C, ht, hn20, hk, rfl, rfl, rfl, hG, hV, hM, k1, k2⟩
  · refine e_Mg_ask rfl (k1 _ ⟨fun q => absurd q e1, fun _ => e_Mg_fail rfl (e_Md_ask rfl (k2 e _ ⟨fun q => absurd q e2, fun _ => e_Md_refuse rfl ⟨rfl, hI.st rfl⟩⟩))⟩)
  · refine e_Mg_ask rfl (k1 _ ⟨fun _ => look_ok hI N ht hn20 hk hG hV (fun U LU => ?_), fun q => absurd rfl q⟩)
    obtain ⟨u1, u2, u3, u4, u5, u6, pr, f0, X⟩ := LU
    have hrl := rows_le (ok := okM n G C) k g n4 n5
    have h14 : 14 ^ k ≤ 14 ^ 4 := Nat.pow_le_pow_right (by decide) hk
    have h14' : (14 : Nat) ^ 4 = 38416 := by decide
    have b20 : (2 : Nat) ^ 20 = 1048576 := by decide
    have hTb : ∀ gap c, gap < gpN g.n → c ≤ 6 → tabN (okM n G C) gap c k g < 2 ^ 20 := fun gap c _ _ => by
      have := tab_le (ok := okM n G C) (gap := gap) (c := c) k g
      omega
    have xt : ∀ gap c, gap < gpN g.n → c ≤ 6 → U.1 108 (7 * gap + c) = nI (tabN (okM n G C) gap c k g) := fun gap c hg hc => by
      rw [X.2.1 gap c hg hc, Nat.zero_add]
    have x0 := X.1
    rw [Nat.zero_add] at x0
    have ask1 : ∀ (s : Int32) (Q : Int32 → aw_S → Prop), (∀ V, Inv (aw_uI V 114 2 s) → Sp l m_Md_orNone 199 0 0 [.ref 114, .int (bgF (fun gap => mxF (fun gap c => tabN (okM n G C) gap c k g) gap 7) (rowsN (okM n G C) k g) (gpN g.n)).1] sh0 V (gI sh0 Q)) → Sp l m_Md_ask 200 0 0 [.ref 114, .int (nI t), .int (nI n), .int (nI k)] sh0 (aw_uI U 0 3 s) (gI sh0 Q) := by
      intro s Q hQ
      refine e_Md_ask rfl (k2 _ _ (by rw [uI_R]; exact u3) (funext fun j => by rw [uI_L]; exact u2 119 j (by omega)) (funext fun j => by rw [uI_ne _ _ _ (by omega)]; exact u1 118 j (by omega)) (by rw [uI_ne _ _ _ (by omega)]; exact u1 115 0 (by omega)) ⟨fun _ => look_md hI N ht hn20 hk hG hM u1 u2 u3 u4 u5 (fun V v1 v2 v3 v4 => ?_), fun q => absurd (by decide) q⟩)
      obtain ⟨pr', f0', Y⟩ := v4
      have yt : ∀ gap c, gap < gpN g.n → c ≤ 6 → V.1 134 (7 * gap + c) = nI (tabN (okM n G C) gap c k g) := fun gap c hg hc => by
        rw [Y.2.1 gap c hg hc, Nat.zero_add]
      rw [Y.1, Nat.zero_add]
      have hmx : ∀ gap, gap < gpN g.n → mxF (fun gap c => tabN (okM n G C) gap c k g) gap 7 < 2 ^ 20 := fun gap hg => mx_lt (by decide) 7 (fun i hi => hTb gap i hg (by omega))
      have key : ∀ j y, y + j = gpN g.n → AW l m_Md_ask 200 0 0 (gI sh0 Q) 0 0 40 [.ref 114, .null, .null, .null, .null, .int (bgF (fun gap => mxF (fun gap c => tabN (okM n G C) gap c k g) gap 7) (rowsN (okM n G C) k g) y).1, .int (nI (bgF (fun gap => mxF (fun gap c => tabN (okM n G C) gap c k g) gap 7) (rowsN (okM n G C) k g) y).2), .int (nI y)] [] sh0 V := by
        intro j
        induction j with
        | zero =>
          intro y hy
          have hy : y = gpN g.n := hy
          subst hy
          exact s_Md_ask_40 rfl (sp_Md_gapsOf (s := 0) (d := 198) (MdS.mk0 v1) (by omega) hn v2 ⟨fun _ => hQ V (v3 s rfl), fun q => absurd (nI_le (Nat.le_refl _) (by omega)) q⟩)
        | succ j ih =>
          intro y hy
          have hn1 := ih (y + 1) (by omega)
          have hm7 := hmx y (by omega)
          have hb1 : (bgF (fun gap => mxF (fun gap c => tabN (okM n G C) gap c k g) gap 7) (rowsN (okM n G C) k g) y).2 < 2 ^ 20 := bg_lt (by omega) y (fun i hi => hmx i (by omega))
          have ma : ∀ {X : Int32 → aw_S → Prop}, X (nI (mxF (fun gap c => tabN (okM n G C) gap c k g) y 7)) V → Sp l m_Md_mostAlike 199 0 0 [.ref 114, .int (nI y)] sh0 V (gI sh0 X) := fun hX => sp_mostAlike (d := 197) (T := fun gap c => tabN (okM n G C) gap c k g) v1 (by omega) (fun c hc => hTb y c (by omega) hc) (fun c hc => yt y c (by omega) hc) hX
          refine s_Md_ask_40 rfl (sp_Md_gapsOf (s := 0) (d := 198) (MdS.mk0 v1) (by omega) hn v2 ⟨fun q => absurd q (nI_ge (by omega) (by omega)), fun _ => ma ⟨fun q => ma ?_, fun q => ?_⟩⟩)
          · have : mxF (fun gap c => tabN (okM n G C) gap c k g) y 7 < (bgF (fun gap => mxF (fun gap c => tabN (okM n G C) gap c k g) gap 7) (rowsN (okM n G C) k g) y).2 := (nI_ltI (by omega) (by omega)).mp q
            have e : bgF (fun gap => mxF (fun gap c => tabN (okM n G C) gap c k g) gap 7) (rowsN (okM n G C) k g) (y + 1) = (nI y, mxF (fun gap c => tabN (okM n G C) gap c k g) y 7) := by
              conv => lhs; unfold bgF
              exact if_pos this
            rw [e] at hn1
            rw [nI_1]
            exact hn1
          · have : ¬ mxF (fun gap c => tabN (okM n G C) gap c k g) y 7 < (bgF (fun gap => mxF (fun gap c => tabN (okM n G C) gap c k g) gap 7) (rowsN (okM n G C) k g) y).2 := fun z => q (nI_lt z (by omega))
            have e : bgF (fun gap => mxF (fun gap c => tabN (okM n G C) gap c k g) gap 7) (rowsN (okM n G C) k g) (y + 1) = bgF (fun gap => mxF (fun gap c => tabN (okM n G C) gap c k g) gap 7) (rowsN (okM n G C) k g) y := by
              conv => lhs; unfold bgF
              exact if_neg this
            rw [e] at hn1
            rw [nI_1]
            exact hn1
      exact key (gpN g.n) 0 (by omega)
    refine ⟨102, u3.at (by decide), rfl, sp_partingGap (d := 197) (gp := gpN g.n) (R := rowsN (okM n G C) k g) (T := fun gap c => tabN (okM n G C) gap c k g) u3 (by omega) (by omega) hTb u6 x0 xt ⟨fun q => e_Mg_give rfl (ask1 0 _ (fun V hV => e_Md_orNone rfl ⟨fun _ => e_Md_gives rfl ⟨rfl, hV⟩, fun q2 => absurd q2 q⟩)), fun q => e_Mg_fail rfl (ask1 6 _ (fun V hV => e_Md_orNone rfl ⟨fun q2 => absurd q q2, fun _ => e_Md_refuse rfl ⟨rfl, hV⟩⟩))⟩⟩
