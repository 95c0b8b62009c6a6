/-! fits, fitsAt, ask -/
theorem RefsOk.uR {S : aw_S} (h : RefsOk S.2.2) {k j : Nat} (v : Option Nat) (hn : rfT.all (fun q => !(decide (q.1 = k) && decide (q.2.1 = j))) = true) : RefsOk (aw_uR S k j v).2.2 := by
  intro q hq
  rw [uR_at]
  have := List.all_eq_true.mp hn q hq
  by_cases e : q.1 = k
  · rw [if_pos e]
    by_cases e2 : q.2.1 = j
    · rw [decide_eq_true e, decide_eq_true e2] at this
      exact absurd this (by decide)
    · rw [if_neg e2, ← e]
      exact h q hq
  · rw [if_neg e]
    exact h q hq
/-- where the class searches -/
def SrX (b k j : Nat) : Prop := OX b k j ∨ k = 105 ∨ (k = 102 ∧ j = 3)
section SC
variable {l : Launch} {S : aw_S} {b : Nat} {g : GM} {n : Nat} {G C : Nat → Nat}
/-- no pass at all -/
theorem sp_extend0 {D : Nat} {P : aw_S → Prop} {ok : GM → Bool} (hab : b = 11 ∨ b = 26) (hD : 7 ≤ D) (hR : RefsOk S.2.2) (h2 : S.2.2 102 2 = some b) (hb : bdG g) (H : GrG S.1 b g) (h3 : S.1 102 3 = nI (gpN g.n)) (hw : OkW ok (S.1 105) g.n) (hrow : S.1 102 0 = nI 0) (hT : ∀ gap c, gap < gpN g.n → c ≤ 6 → S.1 108 (7 * gap + c) = nI ((fun _ _ => 0 : Nat → Nat → Nat) gap c)) (h : ∀ U, FrI (OX b) S U → XI ok g 0 0 0 (fun _ _ => 0) 102 0 108 103 (S.1 104) (S.1 103) U.1 → P U) : Sp l m_Ou_extend D 0 0 [.ref 102, .int 0, .int (nI 0)] sh0 S (gV sh0 P) := by
  obtain ⟨e, rfl⟩ : ∃ e, D = e + 1 + 1 + 1 + 1 + 1 + 1 + 1 := ⟨D - 7, by omega⟩
  have hn : g.n ≤ 7 := hb.1
  have hgp := gp_le g.n
  have hS : GrS sh0 S.2.2 b := GrS.mk0 hR (by omega)
  refine e_Ou_extend rfl ⟨b, h2, 106, hR.at (by decide), hS.sa, sp_fillColours hab hS hb H (fun S4 F4 V4 => sp_wrongGaps (gp := gpN g.n) (by rw [F4.R]; exact hR) (by omega) (by rw [F4.1 102 3 (by omega)]; exact h3) (fun i hi => V4 i (by omega)) ?_)⟩
  have e105 : S4.1 105 = S.1 105 := F4.cell (fun j => by omega)
  have wl := wrC_le (w := S.1 105) (s := shN g) (gpN g.n)
  have F4' : FrI (OX b) S S4 := F4.mono (fun k j q => by unfold OX; omega)
  have hw0 := hw g hb rfl
  rw [e105]
  refine ⟨fun q => h S4 F4' (XI.none ?_ (by rw [F4.1 102 0 (by omega)]; exact hrow) (fun gap c hg hc => by rw [F4.1 108 _ (by omega)]; exact hT gap c hg hc) (fun j => F4.1 103 j (by omega))), fun q => ⟨fun _ => ⟨fun q2 => absurd q2 (by decide), fun _ => ?_⟩, fun q2 => absurd (by decide) q2⟩⟩
  · have : 0 < wrC (S.1 105) (shN g) (gpN g.n) := (nI_ltI (a := 0) (by omega) (by omega)).mp q
    unfold rowsN
    rw [if_neg (fun z => by have := hw0.mp z; omega)]
  · have z0 : wrC (S.1 105) (shN g) (gpN g.n) = 0 := by
      have : ¬ 0 < wrC (S.1 105) (shN g) (gpN g.n) := fun z => q (nI_lt (a := 0) z (by omega))
      omega
    have hok := hw0.mpr z0
    refine e_Ou_finish rfl ⟨107, by rw [F4.R]; exact hR.at (by decide), sp_fillI (r := 107) (n := 7) rfl (by omega) ⟨fun q => absurd rfl q, fun _ => ?_⟩⟩
    have F5 : FrI (fun a i => a = 106 ∨ a = 107) S (aw_wI S4 107 (fun j => if j < 7 then 0 else S4.1 107 j)) := (F4.mono (fun a i q => Or.inl q)).wI _ (fun j => Or.inl (Or.inr rfl))
    have v7 : ∀ i, i < 7 → (aw_wI S4 107 (fun j => if j < 7 then 0 else S4.1 107 j)).1 107 i = 0 := fun i hi => by rw [wI_self, if_pos hi]
    have v6 : ∀ i, i < 7 → (aw_wI S4 107 (fun j => if j < 7 then 0 else S4.1 107 j)).1 106 i = nI (shN g i) := fun i hi => by rw [wI_ne _ _ (by omega)]; exact V4 i hi
    revert F5 v7 v6
    generalize aw_wI S4 107 (fun j => if j < 7 then 0 else S4.1 107 j) = W
    intro F5 v7 v6
    rw [F5.1 102 0 (by omega), hrow]
    have key : ∀ j y U, y + j = gpN g.n → FrI (fun a i => a = 106 ∨ a = 107 ∨ a = 108 ∨ (a = 102 ∧ i = 0)) S U → (∀ i, i < 7 → U.1 107 i = 0) → (∀ i, i < 7 → U.1 106 i = nI (shN g i)) → U.1 102 0 = nI 1 → (∀ gap c, gap < gpN g.n → c ≤ 6 → U.1 108 (7 * gap + c) = nI (if gap < y ∧ shN g gap = c then 1 else 0)) → AW l m_Ou_finish (e + 1 + 1 + 1 + 1 + 1 + 1) 0 0 (gV sh0 P) 0 0 99 [.ref 102, .null, .null, .int (nI 0), .int (nI y), .null] [] sh0 U := by
      intro j
      induction j with
      | zero =>
        intro y U hy F u7 u6 u0 u8
        have hy : y = gpN g.n := hy
        subst hy
        refine s_Ou_finish_99 rfl ?_
        rw [F.1 102 3 (by omega), h3]
        refine ⟨fun _ => h U (F.mono (fun a i q => by unfold OX; omega)) ⟨?_, fun gap c hg hc => ?_, fun q => ?_, fun _ _ => ⟨fun _ => 0, trivial, fun i hi => absurd hi (Nat.not_lt_zero i), fun i hi => absurd hi (Nat.not_lt_zero i)⟩⟩, fun q => absurd (nI_le (Nat.le_refl _) (by omega)) q⟩
        · rw [u0]
          unfold rowsN
          rw [if_pos hok]
        · rw [u8 gap c hg hc]
          unfold tabN
          by_cases e3 : shN g gap = c
          · rw [if_pos ⟨hg, e3⟩, if_pos ⟨hok, e3⟩]
          · rw [if_neg (fun z => e3 z.2), if_neg (fun z => e3 z.2)]
        · exfalso
          rcases q with q | q
          · exact q rfl
          · unfold rowsN at q
            rw [if_pos hok] at q
            exact absurd q (by decide)
      | succ j ih =>
        intro y U hy F u7 u6 u0 u8
        have hRU : RefsOk U.2.2 := by rw [F.R]; exact hR
        have c6 := sh_le hb y
        have e7 : nI y * 7 + nI (shN g y) = nI (7 * y + shN g y) := by rw [show (7 : Int32) = nI 7 from rfl, pk_mul, nI_add, Nat.mul_comm]
        refine s_Ou_finish_99 rfl ?_
        rw [F.1 102 3 (by omega), h3]
        refine ⟨fun q => absurd q (nI_ge (by omega) (by omega)), fun _ => ⟨108, hRU.at (by decide), 106, hRU.at (by decide), 7, rfl, vp_in_nI (by omega) (by omega), ?_⟩⟩
        rw [nI_clamp (by omega), u6 y (by omega)]
        refine e_Ou_cell ⟨49, rfl, ?_⟩
        rw [e7, nI_clamp (by omega), nI_1]
        refine ⟨vp_in_nI (by omega) (by omega), 107, hRU.at (by decide), 7, rfl, vp_in_nI (by omega) (by omega), vp_in_nI (by omega) (by omega), ?_⟩
        rw [u0, u7 y (by omega), show nI 1 - nI 0 - 0 = nI 1 by decide]
        refine ih (y + 1) _ (by omega) (F.uI _ (by omega)) (fun i hi => ?_) (fun i hi => ?_) ?_ (fun gap c hg hc => ?_)
        · rw [uI_ne _ _ _ (by omega)]; exact u7 i hi
        · rw [uI_ne _ _ _ (by omega)]; exact u6 i hi
        · rw [uI_ne _ _ _ (by omega)]; exact u0
        · rw [uI_at, if_pos rfl]
          by_cases e1 : gap = y
          · subst e1
            by_cases e3 : shN g gap = c
            · have q1 : gap < gap + 1 ∧ shN g gap = c := ⟨by omega, e3⟩
              rw [if_pos (by omega), if_pos q1, e3, u8 gap c hg hc, if_neg (by omega)]
              rfl
            · rw [if_neg (by omega), if_neg (fun z => e3 z.2), u8 gap c hg hc, if_neg (by omega)]
          · rw [if_neg (by omega), u8 gap c hg hc]
            by_cases e3 : gap < y ∧ shN g gap = c
            · have q1 : gap < y + 1 ∧ shN g gap = c := ⟨by omega, e3.2⟩
              rw [if_pos e3, if_pos q1]
            · rw [if_neg e3, if_neg (fun z => e3 ⟨by omega, z.2⟩)]
    refine key (gpN g.n) 0 _ (by omega) ((F5.mono (fun a i q => by omega)).uI _ (by omega)) (fun i hi => ?_) (fun i hi => ?_) ?_ (fun gap c hg hc => ?_)
    · rw [uI_ne _ _ _ (by omega)]; exact v7 i hi
    · rw [uI_ne _ _ _ (by omega)]; exact v6 i hi
    · rw [uI_at, if_pos rfl, if_pos rfl]; rfl
    · rw [uI_ne _ _ _ (by omega), F5.1 108 _ (by omega), hT gap c hg hc, if_neg (by omega)]
theorem sp_search {D t k : Nat} {P : aw_S → Prop} (hD : 12 ≤ D) (hab : b = 11 ∨ b = 26) (ht : t < 4) (hn20 : n ≤ 20) (hk : k ≤ 4) (hR : RefsOk S.2.2) (hb : bdG g) (hr : redN g.n g.f g.m) (H : GrG S.1 b g) (hG : ∀ i, i < n → G i < gpN g.n ∧ C i ≤ 6) (hV : ∀ i, i < n → S.2.1 (3 + 2 * t) (2 * i) = lN (G i) ∧ S.2.1 (3 + 2 * t) (2 * i + 1) = lN (C i)) (h : ∀ U pr f0, (∀ a i, ¬ SrX b a i → U.1 a i = S.1 a i) → U.2.1 = S.2.1 → U.2.2 = (aw_uR S 102 2 (some b)).2.2 → U.1 102 3 = nI (gpN g.n) → XI (okM n G C) g 0 k 0 (fun _ _ => 0) 102 0 108 103 pr f0 U.1 → P U) : Sp l m_Ou_search D 0 0 [.ref 102, .ref (2 + 2 * t), .int (nI n), .ref b, .int (nI k)] sh0 S (gV sh0 P) := by
  obtain ⟨e, rfl⟩ : ∃ e, D = e + 1 + 1 + 1 := ⟨D - 3, by omega⟩
  have hn : g.n ≤ 7 := hb.1
  have hgp := gp_le g.n
  have hS : GrS sh0 S.2.2 b := GrS.mk0 hR (by omega)
  have hR0 : RefsOk (aw_uR S 102 2 (some b)).2.2 := hR.uR _ (by decide)
  have hr0 : (aw_uR S 102 2 (some b)).2.2 102 2 = some b := by rw [uR_at, if_pos rfl, if_pos rfl]
  refine e_Ou_search rfl ⟨hS.sa, sp_Gr_gaps hS.sa hn H.1 ⟨108, hR0.at (by decide), sp_fillI (r := 108) (n := 49) rfl (by omega) ?_⟩⟩
  have F1 : ∀ a i, ¬ (a = 108 ∨ (a = 102 ∧ (i = 0 ∨ i = 3))) → (aw_wI (aw_uI (aw_uI (aw_uR S 102 2 (some b)) 102 3 (nI (gpN g.n))) 102 0 0) 108 (fun j => if j < 49 then 0 else (aw_uI (aw_uI (aw_uR S 102 2 (some b)) 102 3 (nI (gpN g.n))) 102 0 0).1 108 j)).1 a i = S.1 a i := fun a i q => by
    rw [wI_ne _ _ (by omega), uI_at]
    by_cases e : a = 102
    · rw [if_pos e, if_neg (by omega), uI_at, if_pos rfl, if_neg (by omega), e]; rfl
    · rw [if_neg e, uI_ne _ _ _ e]; rfl
  have v8 : ∀ i, i < 49 → (aw_wI (aw_uI (aw_uI (aw_uR S 102 2 (some b)) 102 3 (nI (gpN g.n))) 102 0 0) 108 (fun j => if j < 49 then 0 else (aw_uI (aw_uI (aw_uR S 102 2 (some b)) 102 3 (nI (gpN g.n))) 102 0 0).1 108 j)).1 108 i = 0 := fun i hi => by rw [wI_self, if_pos hi]
  have v3 : (aw_wI (aw_uI (aw_uI (aw_uR S 102 2 (some b)) 102 3 (nI (gpN g.n))) 102 0 0) 108 (fun j => if j < 49 then 0 else (aw_uI (aw_uI (aw_uR S 102 2 (some b)) 102 3 (nI (gpN g.n))) 102 0 0).1 108 j)).1 102 3 = nI (gpN g.n) := by
    rw [wI_ne _ _ (by omega), uI_at, if_pos rfl, if_neg (by omega), uI_at, if_pos rfl, if_pos rfl]
  have v0 : (aw_wI (aw_uI (aw_uI (aw_uR S 102 2 (some b)) 102 3 (nI (gpN g.n))) 102 0 0) 108 (fun j => if j < 49 then 0 else (aw_uI (aw_uI (aw_uR S 102 2 (some b)) 102 3 (nI (gpN g.n))) 102 0 0).1 108 j)).1 102 0 = nI 0 := by
    rw [wI_ne _ _ (by omega), uI_at, if_pos rfl, if_pos rfl]; rfl
  have vL : (aw_wI (aw_uI (aw_uI (aw_uR S 102 2 (some b)) 102 3 (nI (gpN g.n))) 102 0 0) 108 (fun j => if j < 49 then 0 else (aw_uI (aw_uI (aw_uR S 102 2 (some b)) 102 3 (nI (gpN g.n))) 102 0 0).1 108 j)).2.1 = S.2.1 := rfl
  have vR : (aw_wI (aw_uI (aw_uI (aw_uR S 102 2 (some b)) 102 3 (nI (gpN g.n))) 102 0 0) 108 (fun j => if j < 49 then 0 else (aw_uI (aw_uI (aw_uR S 102 2 (some b)) 102 3 (nI (gpN g.n))) 102 0 0).1 108 j)).2.2 = (aw_uR S 102 2 (some b)).2.2 := rfl
  revert F1 v8 v3 v0 vL vR
  generalize aw_wI (aw_uI (aw_uI (aw_uR S 102 2 (some b)) 102 3 (nI (gpN g.n))) 102 0 0) 108 (fun j => if j < 49 then 0 else (aw_uI (aw_uI (aw_uR S 102 2 (some b)) 102 3 (nI (gpN g.n))) 102 0 0).1 108 j) = W
  intro F1 v8 v3 v0 vL vR
  have hRW : RefsOk W.2.2 := by rw [vR]; exact hR0
  refine sp_want (t := t) (nd := g.n) ht hn20 hn hRW hG (fun i hi => by rw [vL]; exact hV i hi) (fun U FU hok => ⟨fun q => absurd q (by decide), fun _ => ?_⟩) (fun U FU hno => ⟨fun _ => ?_, fun q => absurd rfl q⟩)
  · have hRU : RefsOk U.2.2 := by rw [FU.R]; exact hRW
    have GU : GrG U.1 b g := H.fr (fun c q1 q2 => funext fun j => by rw [FU.1 c j (by omega), F1 c j (by omega)])
    have fin : ∀ V, FrI (OX b) U V → XI (okM n G C) g 0 k 0 (fun _ _ => 0) 102 0 108 103 (U.1 104) (U.1 103) V.1 → P V := fun V FV XV => by
      refine h V _ _ (fun a i q => ?_) ?_ ?_ ?_ XV
      · rw [FV.1 a i (fun z => q (Or.inl z)), FU.1 a i (fun z => q (Or.inr (Or.inl z))), F1 a i (fun z => q ?_)]
        unfold SrX OX
        omega
      · rw [FV.L, FU.L, vL]
      · rw [FV.R, FU.R, vR]
      · rw [FV.1 102 3 (by unfold OX GX; omega), FU.1 102 3 (by omega)]; exact v3
    have h2U : U.2.2 102 2 = some b := by rw [FU.R, vR]; exact hr0
    have h3U : U.1 102 3 = nI (gpN g.n) := by rw [FU.1 102 3 (by omega)]; exact v3
    have h0U : U.1 102 0 = nI 0 := by rw [FU.1 102 0 (by omega)]; exact v0
    have h8U : ∀ gap c, gap < gpN g.n → c ≤ 6 → U.1 108 (7 * gap + c) = nI ((fun _ _ => 0 : Nat → Nat → Nat) gap c) := fun gap c hg hc => by rw [FU.1 108 _ (by omega)]; exact v8 _ (by omega)
    cases k with
    | zero => exact sp_extend0 hab (by omega) hRU h2U hb GU h3U hok h0U h8U fin
    | succ k =>
      have hrl := rows_le (ok := okM n G C) (k + 1) g hb hr
      have h14 : 14 ^ (k + 1) ≤ 14 ^ 4 := Nat.pow_le_pow_right (by decide) hk
      have h14' : (14 : Nat) ^ 4 = 38416 := by decide
      have b20 : (2 : Nat) ^ 20 = 1048576 := by decide
      have key := sp_extend (l := l) (ok := okM n G C) hab k (e + 1 + 1) 0 g U 0 (fun _ _ => 0) P (by omega) (by omega) hRU h2U hb hr GU h3U hok h0U (by omega) h8U (fun V FV _ _ XV => fin V FV XV)
      rw [Nat.zero_add] at key
      exact key
  · refine h U (S.1 104) (S.1 103) (fun a i q => ?_) ?_ ?_ ?_ (XI.none ?_ ?_ (fun gap c hg hc => ?_) (fun j => ?_))
    · rw [FU.1 a i (fun z => q (Or.inr (Or.inl z))), F1 a i (fun z => q ?_)]
      unfold SrX OX
      omega
    · rw [FU.L, vL]
    · rw [FU.R, vR]
    · rw [FU.1 102 3 (by omega)]; exact v3
    · have : ∀ r g, rowsN (okM n G C) r g = 0 := by
        intro r
        induction r with
        | zero =>
          intro g
          unfold rowsN
          rw [hno g, if_neg (by decide)]
        | succ r ih =>
          intro g
          refine sumF_0 _ (fun x hx => ?_)
          show (if (chG g x).1 = 0 then 0 else rowsN (okM n G C) r (chG g x).2) = 0
          rw [ih, ite_self]
      exact this k g
    · rw [FU.1 102 0 (by omega)]; exact v0
    · rw [FU.1 108 _ (by omega)]; exact v8 _ (by omega)
    · rw [FU.1 103 j (by omega), F1 103 j (by omega)]
end SC
