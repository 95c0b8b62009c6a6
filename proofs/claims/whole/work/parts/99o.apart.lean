/-! how far apart: the class -/
abbrev allT : Nat → Bool := fun _ => true
theorem rl_s (f : Nat → Nat) (m : Nat) : rlB allT f (m + 1) = f m :: rlB allT f m := by
  conv => lhs; unfold rlB
  rw [if_pos rfl]
theorem tl_s (p : Nat → Nat) (k j : Nat) : tlB allT p k (j + 1) = p k :: tlB allT p (k + 1) j := by
  conv => lhs; unfold tlB
  rw [if_pos rfl]
theorem rl_cf {B : Nat → Bool} {f f' : Nat → Nat} : ∀ m, (∀ i, i < m → f i = f' i) → rlB B f m = rlB B f' m := by
  intro m
  induction m with
  | zero => intro _; rfl
  | succ m ih =>
    intro h
    unfold rlB
    rw [h m (by omega), ih (fun i hi => h i (by omega))]
theorem rl_len (f : Nat → Nat) : ∀ m, (rlB allT f m).length = m := by
  intro m
  induction m with
  | zero => rfl
  | succ m ih => rw [rl_s, List.length_cons, ih]
theorem tl_len (p : Nat → Nat) : ∀ j k, (tlB allT p k j).length = j := by
  intro j
  induction j with
  | zero => intro k; rfl
  | succ j ih => intro k; rw [tl_s, List.length_cons, ih]
theorem rl_ins (f : Nat → Nat) (m x : Nat) : rlB allT (insF f m x) (m + 1) = x :: rlB allT f m := by
  rw [rl_s, insF_k, rl_cf m (fun i hi => by unfold insF; rw [if_pos hi])]
theorem ub_rd {n : Nat} {f : Nat → Nat} {x : Nat} (hx : x < 16) : ∀ m, (∀ k, k < m → f k < 16) → (∀ k, ub f (tchN n (x % 8)) (x % 8) (x / 8) m = some k → rdx (tcN n) ivN (rlB allT f m) x = some (rlB allT (remF f k) (m - 1))) ∧ (ub f (tchN n (x % 8)) (x % 8) (x / 8) m = none → rdx (tcN n) ivN (rlB allT f m) x = none) := by
  have H := trN n
  intro m
  induction m with
  | zero =>
    intro _
    exact ⟨fun k h => absurd h (by unfold ub; simp), fun _ => rfl⟩
  | succ m ih =>
    intro hf
    have h16 := hf m (by omega)
    obtain ⟨i1, i2⟩ := ih (fun k hk => hf k (by omega))
    rw [rl_s]
    have et : tcN n (f m) x = tchN n (x % 8) (f m % 8) := by unfold tcN; exact tch_sym _ _ _
    have ei : (f m % 8 = x % 8 ∧ ¬ f m / 8 % 2 = x / 8) ↔ f m = ivN x := by
      unfold ivN
      split <;> omega
    unfold ub
    cases c : tchN n (x % 8) (f m % 8) with
    | true =>
      rw [rd_t (et.trans c)]
      rw [if_pos rfl]
      by_cases e : f m = ivN x
      · rw [if_pos (ei.mpr e), if_pos e]
        refine ⟨fun k hk => ?_, fun q => absurd q (by simp)⟩
        have hk := Option.some.inj hk
        subst hk
        rw [show m + 1 - 1 = m by omega, rl_cf (f' := remF f m) m (fun i hi => by unfold remF; rw [if_pos hi])]
      · rw [if_neg (fun z => e (ei.mp z)), if_neg e]
        exact ⟨fun k hk => absurd hk (by simp), fun _ => rfl⟩
    | false =>
      rw [rd_f (et.trans c)]
      rw [if_neg (by decide)]
      refine ⟨fun k hk => ?_, fun q => by rw [i2 q]; rfl⟩
      have hkm := (ub_lt hk).1
      rw [i1 k hk, show m + 1 - 1 = (m - 1) + 1 by omega, rl_s]
      show some (f m :: _) = _
      rw [show remF f k (m - 1) = f m by unfold remF; rw [if_neg (by omega), show m - 1 + 1 = m by omega]]
/-- the letters of a dance -/
def dlF (c : Nat → Nat) (fl : Int32) (i : Nat) : Nat := c i / 2 + 8 * (if nI i = fl then 1 - c i % 2 else c i % 2)
theorem dl_p {c : Nat → Nat} {fl : Int32} {i gp : Nat} (h : c i < 2 * gp) (hg : gp ≤ 7) : dlF c fl i < 16 ∧ dlF c fl i % 8 = c i / 2 ∧ dlF c fl i / 8 = (if nI i = fl then 1 - c i % 2 else c i % 2) := by
  unfold dlF
  split <;> omega
def wdF (n : Nat) (w : List Nat) (dl : Nat → Nat) : Nat → List Nat
  | 0 => w
  | i + 1 => ap (tcN n) ivN (wdF n w dl i) (dl i)
theorem wd_hom {n : Nat} {w : List Nat} {dl : Nat → Nat} (h : RdL (tcN n) ivN w) : ∀ i, EqL (tcN n) ivN (wdF n w dl i) (acL (tcN n) ivN w (wdF n [] dl i)) := by
  intro i
  induction i with
  | zero => exact EqL.rf _
  | succ i ih => exact (ih.ap (dl i)).tr (acL.hom (trN n) h (dl i) (wdF n [] dl i)).sy
theorem wd_rd {n : Nat} {dl : Nat → Nat} : ∀ i, RdL (tcN n) ivN (wdF n [] dl i) := by
  intro i
  induction i with
  | zero => exact trivial
  | succ i ih => exact ih.ap (trN n)
/-- the plait, undone, undoes nothing of itself -/
theorem red_rd {n : Nat} {f : Nat → Nat} {m : Nat} (h : redN n f m) : ∀ j k, k + j = m → RdL (tcN n) ivN ((tlB allT (fun i => f i % 16) k j).map ivN) := by
  have H := trN n
  intro j
  induction j with
  | zero => intro k _; exact trivial
  | succ j ih =>
    intro k hk
    rw [tl_s, List.map_cons]
    refine ⟨?_, ih (k + 1) (by omega)⟩
    cases e : rdx (tcN n) ivN ((tlB allT (fun i => f i % 16) (k + 1) j).map ivN) (ivN (f k % 16)) with
    | none => rfl
    | some u =>
      exfalso
      obtain ⟨i, i1, i2, i3, i4, i5⟩ := tl_ex j (k + 1) u e
      have i4 : f i % 16 = ivN (f k % 16) := i4
      have e8 : f i % 8 = f k % 8 := by
        have := iv_8 (f k % 16)
        rw [← i4] at this
        omega
      have eo : f k / 8 % 2 ≠ f i / 8 % 2 := by
        unfold ivN at i4
        split at i4 <;> omega
      obtain ⟨o, o1, o2, o3⟩ := h k i (by omega) (by omega) e8.symm eo
      have := i5 o (by omega) (by omega) rfl
      have this : tchN n (f o % 16 % 8) (ivN (f k % 16) % 8) = false := this
      rw [iv_8, show f o % 16 % 8 = f o % 8 by omega, show f k % 16 % 8 = f k % 8 by omega, ← e8, o3] at this
      exact absurd this (by decide)
section PA2
variable {l : Launch} {d : Nat} {S : aw_S} {a : Nat} {g : GM}
theorem sp_Pl_add {P : aw_S → Prop} {c r cap m x : Nat} {f : Nat → Nat} (H : PlA sh0 S c r cap m f) (hcr : c ≠ r) (hm : m < cap) (hx : x < 1024) (h : ∀ S', FrI (fun c' i => (c' = c ∧ i = 1) ∨ c' = r) S S' → PlA sh0 S' c r cap (m + 1) (insF f m x) → P S') : Sp l m_Pl_add (d + 1 + 1) 0 0 [.ref c, .int (nI x)] sh0 S (gV sh0 P) := by
  refine e_Pl_add H.1 ?_
  rw [H.2.2.2.1]
  exact sp_Pl_insert H hcr (Nat.le_refl _) hm hx h
theorem sp_passesApart {P : Int32 → aw_S → Prop} {t n : Nat} {c : Nat → Nat} {fl : Int32} (ha : a = 11 ∨ a = 26) (hR : RefsOk S.2.2) (h6 : S.2.2 0 6 = some a) (hb : bdG g) (hr : redN g.n g.f g.m) (H : GrG S.1 a g) (ht : t < 4) (hn40 : n ≤ 40) (hc : ∀ i, i < n → c i < 2 * gpN g.n) (hV : ∀ i, i < n → S.2.1 (3 + 2 * t) i = lN (c i)) (h : ∀ S', FrI (fun k _ => k = 109 ∨ k = 110) S S' → P (nI (wdF g.n ((tlB allT (fun i => g.f i % 16) 0 g.m).map ivN) (dlF c fl) n).length) S') : Sp l m_Mg_passesApart (d + 1 + 1 + 1 + 1) 0 0 [.ref 0, .ref (2 + 2 * t), .int (nI n), .int fl] sh0 S (gI sh0 P) := by
  have hS : GrS sh0 S.2.2 a := GrS.mk0 hR (by omega)
  have hn : g.n ≤ 7 := hb.1
  have hm : g.m ≤ 40 := hb.2.2.2.2.1
  have hgp := gp_le g.n
  obtain ⟨s1, s2⟩ := sh_tray t ht
  have GF : ∀ U, FrI (fun k _ => k = 109 ∨ k = 110) S U → GrG U.1 a g := fun U F => H.fr (fun c q1 q2 => F.cell (fun j => by omega))
  have key2 : ∀ j i U m2 f2, i + j = n → FrI (fun k _ => k = 109 ∨ k = 110) S U → PlA sh0 U 109 110 80 m2 f2 → (∀ k, k < m2 → f2 k < 16 ∧ f2 k % 8 < gpN g.n) → rlB allT f2 m2 = wdF g.n ((tlB allT (fun i => g.f i % 16) 0 g.m).map ivN) (dlF c fl) i → m2 ≤ g.m + i → AW l m_Mg_passesApart (d + 1 + 1 + 1 + 1) 0 0 (gI sh0 P) 0 0 74 [.ref 0, .ref (2 + 2 * t), .int (nI n), .int fl, .int (nI i), .null, .null, .null, .null] [] sh0 U := by
    intro j
    induction j with
    | zero =>
      intro i U m2 f2 hi F A hf e hl
      have hi : i = n := hi
      subst hi
      have hRU : RefsOk U.2.2 := by rw [F.R]; exact hR
      refine s_Mg_passesApart_74 rfl ⟨fun _ => ⟨109, hRU.at (by decide), rfl, ?_⟩, fun q => absurd (nI_le (Nat.le_refl _) (by omega)) q⟩
      have := h U F
      rw [← e, rl_len] at this
      rw [A.2.2.2.1]
      exact this
    | succ j ih =>
      intro i U m2 f2 hi F A hf e hl
      have hRU : RefsOk U.2.2 := by rw [F.R]; exact hR
      have hSU : GrS sh0 U.2.2 a := GrS.mk0 hRU (by omega)
      have GU := GF U F
      obtain ⟨r1, r2⟩ := rf_tray hRU ht
      have hci := hc i (by omega)
      obtain ⟨d1, d2, d3⟩ := dl_p (fl := fl) hci (by omega)
      obtain ⟨w1, w2⟩ := ub_rd (n := g.n) d1 m2 (fun k hk => (hf k hk).1)
      obtain ⟨t1, t2⟩ := tm_b g.n (by omega) (c i / 2) (by omega)
      -- one letter
      have one : ∀ o : Nat, o < 2 → dlF c fl i / 8 = o → ∃ r11, U.2.2 0 17 = some r11 ∧ ∃ r12, U.2.2 0 6 = some r12 ∧ sh0[r12]? = some (0, 2) ∧ Sp l m_Gr_touching (d + 1 + 1 + 1) 0 0 [.ref r12, .int (nI (c i / 2))] sh0 U (gI sh0 (fun x15 S14 => sh0[r11]? = some (0, 3) ∧ Sp l m_Pl_undoneBy (d + 1 + 1 + 1) 0 0 [.ref r11, .int (nI (c i / 2)), .int (nI o), .int x15] sh0 S14 (gI sh0 (fun x18 S17 => ((¬ x18 = (-1) → ∃ r20, S17.2.2 0 17 = some r20 ∧ sh0[r20]? = some (0, 3) ∧ Sp l m_Pl_remove (d + 1 + 1 + 1) 0 0 [.ref r20, .int x18] sh0 S17 (gV sh0 (fun S22 => AW l m_Mg_passesApart (d + 1 + 1 + 1 + 1) 0 0 (gI sh0 P) 0 0 74 [.ref 0, .ref (2 + 2 * t), .int (nI n), .int fl, .int (nI i + 1), .null, .null, .null, .null] [] sh0 S22))) ∧ (x18 = (-1) → ∃ r23, S17.2.2 0 17 = some r23 ∧ Sp l m_Pl_packed (d + 1 + 1 + 1) 0 0 [.int (nI (c i / 2)), .int (nI o), .int 0, .int 0] sh0 S17 (gI sh0 (fun x25 S24 => sh0[r23]? = some (0, 3) ∧ Sp l m_Pl_add (d + 1 + 1 + 1) 0 0 [.ref r23, .int x25] sh0 S24 (gV sh0 (fun S27 => AW l m_Mg_passesApart (d + 1 + 1 + 1 + 1) 0 0 (gI sh0 P) 0 0 74 [.ref 0, .ref (2 + 2 * t), .int (nI n), .int fl, .int (nI i + 1), .null, .null, .null, .null] [] sh0 S27))))))))))  := by
        intro o ho eo
        refine ⟨109, hRU.at (by decide), a, by rw [F.R]; exact h6, hS.sa, sp_Gr_touching hS.sa hn (by omega) GU.1 ⟨rfl, ?_⟩⟩
        refine sp_Pl_undoneBy A (by omega) ho (tch := tchN g.n (c i / 2)) (fun k hk => ?_) ?_
        · rw [n_bit0 (by omega) (by have := (hf k hk).2; omega)]
          exact t2 _ (hf k hk).2
        · rw [d2, eo] at w1 w2
          rw [nI_1]
          have ewd : wdF g.n ((tlB allT (fun i => g.f i % 16) 0 g.m).map ivN) (dlF c fl) (i + 1) = ap (tcN g.n) ivN (rlB allT f2 m2) (dlF c fl i) := by rw [e]; rfl
          cases hu : ub f2 (tchN g.n (c i / 2)) (c i / 2) o m2 with
          | some k =>
            have hk := (ub_lt hu).1
            have hm2 : m2 ≤ 80 := A.2.2.2.2.1
            refine ⟨fun _ => ⟨109, hRU.at (by decide), rfl, ?_⟩, fun q => absurd q (nI_ne_m1 (by omega))⟩
            refine sp_Pl_remove A (by omega) hk (fun V FV AV => ih (i + 1) V (m2 - 1) (remF f2 k) (by omega) (F.trans (FV.mono (fun c i q => by omega))) AV (fun q hq => ?_) ?_ (by omega))
            · unfold remF
              split
              · exact hf q (by omega)
              · exact hf (q + 1) (by omega)
            · rw [ewd, ap_s (w1 k hu)]
          | none =>
            refine ⟨fun q => absurd rfl q, fun _ => ⟨109, hRU.at (by decide), ?_⟩⟩
            have pk : (((nI (c i / 2) ||| (nI o <<< ((3 : Int32) &&& 31))) ||| ((0 : Int32) <<< ((4 : Int32) &&& 31))) ||| ((0 : Int32) <<< ((7 : Int32) &&& 31))) = nI (dlF c fl i) := by
              have := pk_w (c i / 2) (by omega) o ho 0 (by omega) 0 (by omega)
              rw [show dlF c fl i = c i / 2 + 8 * o + 16 * 0 + 128 * 0 by omega]
              exact this
            refine e_Pl_packed ?_
            rw [pk]
            refine ⟨rfl, sp_Pl_add A (by omega) (by omega) (by omega) (fun V FV AV => ih (i + 1) V (m2 + 1) (insF f2 m2 (dlF c fl i)) (by omega) (F.trans (FV.mono (fun c i q => by omega))) AV (fun q hq => ?_) ?_ (by omega))⟩
            · unfold insF
              split
              · exact hf q (by omega)
              · split
                · exact ⟨d1, by omega⟩
                · exact hf (q - 1) (by omega)
            · rw [ewd, ap_n (w2 hu), rl_ins]
      refine s_Mg_passesApart_74 rfl ⟨fun q => absurd q (nI_ge (by omega) (by omega)), fun _ => ⟨s1, 3 + 2 * t, r2, 60, s2, vp_in_nI (by omega) (by omega), fun v9 hv9 => ?_⟩⟩
      rw [nI_clamp (by omega), F.L, hV i (by omega), lN_i] at hv9 ⊢
      rw [n_shr (by omega) _ 1 (by decide)] at hv9
      subst hv9
      rw [n_and1 (by omega)]
      refine ⟨fun q => ?_, fun q v28 hv28 => ?_⟩
      · rw [if_neg q] at d3
        exact one (c i % 2) (by omega) d3
      · have e1 : (1 : Int32) - nI (c i % 2) = nI (1 - c i % 2) := by
          rw [show (1 : Int32) = nI 1 from rfl, nI_sub (by omega)]
        rw [e1] at hv28
        subst hv28
        rw [if_pos q] at d3
        exact one (1 - c i % 2) (by omega) d3
  have key1 : ∀ k U f2, k ≤ g.m → FrI (fun k _ => k = 109 ∨ k = 110) S U → PlA sh0 U 109 110 80 (g.m - k) f2 → (∀ q, q < g.m - k → f2 q < 16 ∧ f2 q % 8 < gpN g.n) → rlB allT f2 (g.m - k) = (tlB allT (fun i => g.f i % 16) k (g.m - k)).map ivN → AW l m_Mg_passesApart (d + 1 + 1 + 1 + 1) 0 0 (gI sh0 P) 0 0 22 [.ref 0, .ref (2 + 2 * t), .int (nI n), .int fl, .int (nI k - 1), .null, .null, .null, .null] [] sh0 U := by
    intro k
    induction k with
    | zero =>
      intro U f2 hk F A hf e
      refine s_Mg_passesApart_22 rfl ⟨fun _ => key2 n 0 U (g.m - 0) f2 (by omega) F A hf e (by omega), fun q => absurd (by decide) q⟩
    | succ k ih =>
      intro U f2 hk F A hf e
      have hRU : RefsOk U.2.2 := by rw [F.R]; exact hR
      have hSU : GrS sh0 U.2.2 a := GrS.mk0 hRU (by omega)
      have GU := GF U F
      have AG := GU.pl hSU hb
      obtain ⟨k1, k2, k3, k4, k5⟩ := hb.2.2.2.2.2.1 k (by omega)
      have hu6 : U.2.2 0 6 = some a := by rw [F.R]; exact h6
      rw [nI_pr]
      refine s_Mg_passesApart_22 rfl ⟨fun q => absurd q (nI_pos (by omega)), fun _ => ⟨109, hRU.at (by decide), a, hu6, hS.sa, a + 6, hSU.r10, hS.s6, sp_Pl_gapAt AG (by omega) ⟨a, hu6, hS.sa, a + 6, hSU.r10, hS.s6, sp_Pl_overAt AG (by omega) (e_Pl_packed ?_)⟩⟩⟩
      have e1 : (1 : Int32) - nI (g.f k / 8 % 2) = nI (1 - g.f k / 8 % 2) := by
        rw [show (1 : Int32) = nI 1 from rfl, nI_sub (by omega)]
      have pk : (((nI (g.f k % 8) ||| (nI (1 - g.f k / 8 % 2) <<< ((3 : Int32) &&& 31))) ||| ((0 : Int32) <<< ((4 : Int32) &&& 31))) ||| ((0 : Int32) <<< ((7 : Int32) &&& 31))) = nI (ivN (g.f k % 16)) := by
        have := pk_w (g.f k % 8) (by omega) (1 - g.f k / 8 % 2) (by omega) 0 (by omega) 0 (by omega)
        rw [show ivN (g.f k % 16) = g.f k % 8 + 8 * (1 - g.f k / 8 % 2) + 16 * 0 + 128 * 0 by unfold ivN; split <;> omega]
        exact this
      rw [e1, pk]
      have h16 := iv_16 (x := g.f k % 16) (by omega)
      have h8 := iv_8 (g.f k % 16)
      refine ⟨rfl, sp_Pl_add A (by omega) (by omega) (by omega) (fun V FV AV => ?_)⟩
      rw [nI_mm]
      have em : g.m - k = g.m - (k + 1) + 1 := by omega
      refine ih V (insF f2 (g.m - (k + 1)) (ivN (g.f k % 16))) (by omega) (F.trans (FV.mono (fun c i q => by omega))) (by rw [em]; exact AV) (fun q hq => ?_) ?_
      · unfold insF
        split
        · exact hf q (by omega)
        · split
          · exact ⟨h16, by omega⟩
          · exact hf (q - 1) (by omega)
      · rw [em, rl_ins, e, tl_s]
        rfl
  refine e_Mg_passesApart rfl ⟨109, hR.at (by decide), rfl, a, h6, hS.sa, a + 6, hS.r10, hS.s6, ?_⟩
  rw [uI_ne _ _ _ (by omega), H.2.2.2.1]
  refine key1 g.m _ (fun _ => 0) (Nat.le_refl _) ((FrI.refl _ _).uI _ (Or.inl rfl)) ?_ (fun q hq => absurd hq (by omega)) ?_
  · rw [Nat.sub_self]
    refine ⟨rfl, hR.at (by decide), rfl, ?_, by omega, by omega, fun k hk => absurd hk (Nat.not_lt_zero k)⟩
    rw [uI_at, if_pos rfl, if_pos rfl]
    rfl
  · rw [Nat.sub_self]; rfl
end PA2
