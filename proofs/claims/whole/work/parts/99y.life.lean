/-! a life: the reference does a block -/
theorem stQ_ms (op x1 x2 : Nat) (s : LvS) : (stQ op x1 x2 s).2.ms = s.ms ∧ (stQ op x1 x2 s).2.hl = s.hl := by
  unfold stQ
  split
  · exact ⟨rfl, rfl⟩
  · split
    · unfold bkP
      split <;> exact ⟨rfl, rfl⟩
    · split
      · exact ⟨rfl, rfl⟩
      · split
        · unfold ptP
          split <;> exact ⟨rfl, rfl⟩
        · unfold anP
          split <;> exact ⟨rfl, rfl⟩
section RB
variable {l : Launch} {d n N c : Nat} {cd pr xa xb xc : Nat → Nat} {S0 : aw_S} {P : aw_S → Prop}
/-- the reference's table -/
def tbR (n N : Nat) (cd pr xa xb xc : Nat → Nat) (I : Nat → Nat → Int32) (c : Nat) : Prop := WfP N cd pr ∧ I 115 5 = nI N ∧ (∀ e, e < N → I 115 (184 + 6 * e) = nI (cd e) ∧ cd e < 2000 ∧ (cd e = 13 → I 115 (184 + 6 * e + 4) = nI (pr e))) ∧ enA n N cd pr xa xb xc I c
theorem LmR.cell {T : aw_S} {s : LvS} {lp : Nat → Int32} (h : LmR S0 lp T s) {j : Nat} (hj : j = 5 ∨ 184 ≤ j) : T.1 115 j = S0.1 115 j := h.1.1 _ _ (by unfold LmX MXw MXd; omega)
theorem LmR.rf {T : aw_S} {s : LvS} {lp : Nat → Int32} (h : LmR S0 lp T s) (hR : RefsOk S0.2.2) : RefsOk T.2.2 := by rw [h.1.R]; exact hR
theorem LmR.lp {T : aw_S} {s : LvS} {lp : Nat → Int32} (h : LmR S0 lp T s) (o : Nat) (v : Int32) : LmR S0 (upd lp o v) (aw_uI T 140 o v) s := by
  obtain ⟨g1, g2, g3, g4, g5, g6, g7⟩ := h
  refine ⟨g1.uI _ (Or.inr (Or.inr (Or.inr (Or.inl rfl)))), ?_, ?_, ?_, ?_, ?_, ?_⟩
  · obtain ⟨m0, m1, m2, m3, m4, m5, m6⟩ := g2
    have e : (aw_uI T 140 o v).1 115 = T.1 115 := uI_ne _ _ _ (by omega)
    refine ⟨?_, ?_, ?_, ?_, fun k hk => ?_, fun k hk => ?_, fun k hk => ?_⟩
    · rw [e]; exact m0
    · rw [e]; exact m1
    · rw [e]; exact m2
    · rw [e]; exact m3
    · rw [e]; exact m4 k hk
    · rw [e]; exact m5 k hk
    · rw [e]; exact m6 k hk
  · rw [uI_ne _ _ _ (by omega)]; exact g3
  · rw [uI_ne _ _ _ (by omega)]; exact g4
  · rw [uI_ne _ _ _ (by omega)]; exact g5
  · rw [uI_ne _ _ _ (by omega)]; exact g6
  · rw [← g7]
    show va_up T.1 140 (upd (T.1 140) o v) 140 = _
    simp [va_up]
theorem LmR.mss {T V : aw_S} {lp : Nat → Int32} {x : Int32} {r : Bool × LvS} (h : LmR S0 lp V r.2) (hx : x = 0 ↔ r.1 = false) (em : T.1 141 0 = nI r.2.ms) : LmR S0 lp (aw_uI V 141 0 (T.1 141 0 + (if x = 0 then 1 else 0))) (msS r) := by
  obtain ⟨g1, g2, g3, g4, g5, ⟨q0, q1, q2, q3, q4⟩, g7⟩ := h
  have e : (aw_uI V 141 0 (T.1 141 0 + (if x = 0 then 1 else 0))).1 115 = V.1 115 := uI_ne _ _ _ (by omega)
  refine ⟨g1.uI _ (Or.inr (Or.inr (Or.inr (Or.inr rfl)))), ?_, ?_, ?_, ?_, ⟨?_, ?_, ?_, ?_, ?_⟩, ?_⟩
  · obtain ⟨m0, m1, m2, m3, m4, m5, m6⟩ := g2
    refine ⟨?_, ?_, ?_, ?_, fun k hk => ?_, fun k hk => ?_, fun k hk => ?_⟩
    · rw [e]; exact m0
    · rw [e]; exact m1
    · rw [e]; exact m2
    · rw [e]; exact m3
    · rw [e]; exact m4 k hk
    · rw [e]; exact m5 k hk
    · rw [e]; exact m6 k hk
  · rw [e]; exact g3
  · rw [uI_ne _ _ _ (by omega)]; exact g4
  · rw [uI_ne _ _ _ (by omega)]; exact g5
  · rw [uI_at, if_pos rfl, if_pos rfl, em]
    show _ = nI (r.2.ms + if r.1 = true then 0 else 1)
    cases q : r.1 with
    | true =>
      rw [if_neg (fun z => by rw [hx.mp z] at q; exact absurd q (by decide)), if_pos rfl]
      exact Int32.add_zero _
    | false =>
      rw [if_pos (hx.mpr q), if_neg (by decide), nI_1]
  · rw [uI_at, if_pos rfl, if_neg (by decide)]; exact q1
  · rw [uI_at, if_pos rfl, if_neg (by decide)]; exact q2
  · rw [uI_at, if_pos rfl, if_neg (by decide)]; exact q3
  · rw [uI_at, if_pos rfl, if_neg (by decide)]; exact q4
  · rw [uI_ne _ _ _ (by omega)]; exact g7
theorem LmR.up {T : aw_S} {s : LvS} {lp : Nat → Int32} (h : LmR S0 lp T s) : LmR S0 lp (aw_uI T 114 46 (nI (s.st + 1))) (up1 s) := by
  obtain ⟨g1, g2, g3, g4, g5, g6, g7⟩ := h
  have e : (aw_uI T 114 46 (nI (s.st + 1))).1 115 = T.1 115 := uI_ne _ _ _ (by omega)
  refine ⟨g1.uI _ (Or.inr (Or.inr (Or.inl ⟨rfl, Or.inr rfl⟩))), ?_, ?_, ?_, ?_, ?_, ?_⟩
  · obtain ⟨m0, m1, m2, m3, m4, m5, m6⟩ := g2
    refine ⟨?_, ?_, ?_, ?_, fun k hk => ?_, fun k hk => ?_, fun k hk => ?_⟩
    · rw [e]; exact m0
    · rw [e]; exact m1
    · rw [e]; exact m2
    · rw [e]; exact m3
    · rw [e]; exact m4 k hk
    · rw [e]; exact m5 k hk
    · rw [e]; exact m6 k hk
  · rw [e]; exact g3
  · rw [uI_at, if_pos rfl, if_neg (by omega)]; exact g4
  · rw [uI_at, if_pos rfl, if_pos rfl]; rfl
  · rw [uI_ne _ _ _ (by omega)]; exact g6
  · rw [uI_ne _ _ _ (by omega)]; exact g7
theorem LmR.lf {T : aw_S} {s : LvS} {lp : Nat → Int32} (h : LmR S0 lp T s) : LmR S0 lp (aw_uI T 141 4 1) (lfS s) := by
  obtain ⟨g1, g2, g3, g4, g5, ⟨q0, q1, q2, q3, q4⟩, g7⟩ := h
  have e : (aw_uI T 141 4 1).1 115 = T.1 115 := uI_ne _ _ _ (by omega)
  refine ⟨g1.uI _ (Or.inr (Or.inr (Or.inr (Or.inr rfl)))), ?_, ?_, ?_, ?_, ⟨?_, ?_, ?_, ?_, ?_⟩, ?_⟩
  · obtain ⟨m0, m1, m2, m3, m4, m5, m6⟩ := g2
    refine ⟨?_, ?_, ?_, ?_, fun k hk => ?_, fun k hk => ?_, fun k hk => ?_⟩
    · rw [e]; exact m0
    · rw [e]; exact m1
    · rw [e]; exact m2
    · rw [e]; exact m3
    · rw [e]; exact m4 k hk
    · rw [e]; exact m5 k hk
    · rw [e]; exact m6 k hk
  · rw [e]; exact g3
  · rw [uI_ne _ _ _ (by omega)]; exact g4
  · rw [uI_ne _ _ _ (by omega)]; exact g5
  · rw [uI_at, if_pos rfl, if_neg (by decide)]; exact q0
  · rw [uI_at, if_pos rfl, if_neg (by decide)]; exact q1
  · rw [uI_at, if_pos rfl, if_neg (by decide)]; exact q2
  · rw [uI_at, if_pos rfl, if_neg (by decide)]; exact q3
  · rw [uI_at, if_pos rfl, if_pos rfl]; rfl
  · rw [uI_ne _ _ _ (by omega)]; exact g7
/-- what is owed behind a block -/
def KB (l : Launch) (d : Nat) (P : aw_S → Prop) (S0 : aw_S) (b t : Nat) (lp : Nat → Int32) (s : LvS) : Prop := ∀ lp' T', (∀ j, j < b → lp' j = lp j) → LmR S0 lp' T' s → (s.hl = true → P T') ∧ (s.hl = false → HK l d P t T')
theorem rf_block (hR : RefsOk S0.2.2) (Q : tbR n N cd pr xa xb xc S0.1 c) : ∀ f b t s lp T, WB N cd pr b t → t - b ≤ f → LsB n s → s.hl = false → LmR S0 lp T s → KB l d P S0 b t lp (bkF cd pr xa xb xc f b t s) → HK l d P b T ∧ (b < t → AW l m_Md_lives (d + 9) 0 0 (gV sh0 P) 0 0 32 [.ref 114, .null, .int (nI b), .null] [] sh0 T) := by
  obtain ⟨W, q5, qe, E⟩ := Q
  intro f
  induction f with
  | zero =>
    intro b t s lp T w hf B hl h k
    have : b = t := by have := w.1; omega
    subst this
    exact ⟨(k lp T (fun _ _ => rfl) h).2 hl, fun z => absurd z (Nat.lt_irrefl _)⟩
  | succ f ih0 =>
    intro b t s lp T w hf B hl h k
    have ih := fun b t s lp T w hf B hl h k => (ih0 b t s lp T w hf B hl h k).1
    have hN := w.2.1
    have h60 := W.1
    by_cases hb : b < t
    · have hne := w.ne W hb
      obtain ⟨y0, y1, -⟩ := qe b (by omega)
      have e := E b (by omega) hne
      have c0 : ∀ {T' : aw_S} {s' : LvS} {lp' : Nat → Int32}, LmR S0 lp' T' s' → ∀ j, T'.1 115 (184 + 6 * b + j) = S0.1 115 (184 + 6 * b + j) := fun hT j => hT.cell (by omega)
      have hx : ¬ (t ≤ b ∨ s.hl = true) := fun y => y.elim (fun y => by omega) (fun y => by rw [hl] at y; exact absurd y (by decide))
      have hst := B.2.2.2.2
      have h46 := h.2.2.2.2.1
      suffices main : AW l m_Md_lives (d + 9) 0 0 (gV sh0 P) 0 0 32 [.ref 114, .null, .int (nI b), .null] [] sh0 T from ⟨HK.now (h.rf hR) (show b < N by omega) h60 y1 ((h.cell (Or.inl rfl)).trans q5) ((c0 h 0).trans y0) hne main, fun _ => main⟩
      by_cases y : 300 ≤ s.st
      · have eb : bkF cd pr xa xb xc (f + 1) b t s = lfS s := by
          rw [bkF, if_neg hx, if_pos y]
        rw [eb] at k
        have hv : vp_in 5 3864 := vp_in_nI (n := 5) (by omega) (by omega)
        refine s_Md_lives_32 rfl ⟨115, (h.rf hR).at (by decide), 3864, rfl, hv, fun z => ?_, fun _ => ⟨fun z => absurd ?_ z, fun _ => ⟨141, (h.rf hR).at (by decide), 5, rfl, vp_in_nI (n := 4) (by omega) (by omega), ?_⟩⟩⟩
        · have z : T.1 115 5 ≤ nI b := z
          rw [h.cell (Or.inl rfl), q5] at z
          exact absurd ((nI_leI (by omega) (by omega)).mp z) (by omega)
        · rw [h46, show s.st = 300 by omega]
          rfl
        · exact (k lp _ (fun _ _ => rfl) h.lf).1 rfl
      · have y : s.st < 300 := by omega
        have B1 : LsB n (up1 s) := B.up y
        have eb : bkF cd pr xa xb xc (f + 1) b t s = (if cd b = 14 then haS (up1 s) else if cd b = 12 then bkF cd pr xa xb xc f (pr b + 1) t (itF (bkF cd pr xa xb xc f (b + 1) (pr b)) (xa b) (up1 s)) else if 1100 ≤ cd b then bkF cd pr xa xb xc f (pr b + 1) t (if hdP (cd b) (xa b) (xb b) (xc b) s.g = true then bkF cd pr xa xb xc f (b + 1) (pr b) (up1 s) else up1 s) else bkF cd pr xa xb xc f (b + 1) t (msS (stQ (cd b) (xa b) (xb b) (up1 s)))) := by
          rw [bkF, if_neg hx, if_neg (by omega)]
        rw [eb] at k
        have hU : LmR S0 lp (aw_uI T 114 46 (nI (s.st + 1))) (up1 s) := h.up
        by_cases c14 : cd b = 14
        · rw [if_pos c14] at k
          have hv : vp_in 5 3864 := vp_in_nI (n := 5) (by omega) (by omega)
          refine s_Md_lives_32 rfl ⟨115, (h.rf hR).at (by decide), 3864, rfl, hv, fun z => ?_, fun _ => ⟨fun _ => ⟨by rw [n184]; exact vp_in_nI (by omega) (by omega), fun z => absurd ?_ z, fun _ => ?_⟩, fun z => ?_⟩⟩
          · have z : T.1 115 5 ≤ nI b := z
            rw [h.cell (Or.inl rfl), q5] at z
            exact absurd ((nI_leI (by omega) (by omega)).mp z) (by omega)
          · rw [n184, nI_clamp (by omega), uI_ne _ _ _ (by omega)]
            exact ((c0 h 0).trans y0).trans (by rw [c14]; rfl)
          · rw [h46, nI_1]
            exact (k lp _ (fun _ _ => rfl) (show LmR S0 lp _ (haS (up1 s)) from hU)).1 rfl
          · rw [h46] at z
            exact absurd ((nI_inj (b := 300) (by omega) (by omega)).mp z) (by omega)
        · rw [if_neg c14] at k
          have nm : ∀ (V : aw_S) (lp' : Nat → Int32) (U : aw_S), LmR S0 lp' V (up1 s) → U = aw_uI V 141 0 (T.1 141 0 + (if (1 : Int32) = 0 then 1 else 0)) → LmR S0 lp' U (up1 s) := by
            intro V lp' U hV eU
            rw [eU]
            exact LmR.mss (r := (true, up1 s)) hV ⟨fun z => absurd z (by decide), fun z => absurd (show true = false from z) (by decide)⟩ h.2.2.2.2.2.1.1
          by_cases c12 : cd b = 12
          · rw [if_pos c12] at k
            have ho := op_12 c12
            obtain ⟨k1, ⟨k2, k2'⟩, ⟨-, k3⟩, -, k4⟩ := e.t12 c12
            obtain ⟨w1, w2, w3, w4⟩ := W.2.2.2.1 b (by omega) ho
            obtain ⟨z0, z1, z2⟩ := qe (pr b) w2
            have pt := w.2.2.2 b (Nat.le_refl _) hb ho
            have hsub := w.sub W hb ho
            have rest : ∀ T' lp' , (∀ j, j < b → lp' j = lp j) → LmR S0 lp' T' (itF (bkF cd pr xa xb xc f (b + 1) (pr b)) (xa b) (up1 s)) → (itF (bkF cd pr xa xb xc f (b + 1) (pr b)) (xa b) (up1 s)).hl = false → HK l d P (pr b + 1) T' := by
              intro T' lp' hlp hT hl'
              refine ih (pr b + 1) t _ lp' T' (w.rest W hb ho) (by omega) (it_B (fun s' B' => bkF_B W E f _ _ s' hsub B') _ _ B1) hl' hT (fun lp2 T2 h2 h3 => k lp2 T2 (fun j hj => (h2 j (by omega)).trans (hlp j hj)) h3)
            have stop : ∀ T' lp' , (∀ j, j < b → lp' j = lp j) → LmR S0 lp' T' (itF (bkF cd pr xa xb xc f (b + 1) (pr b)) (xa b) (up1 s)) → (itF (bkF cd pr xa xb xc f (b + 1) (pr b)) (xa b) (up1 s)).hl = true → P T' := by
              intro T' lp' hlp hT hl'
              have k' := k lp' T' hlp
              rw [bkF_hl hl'] at k'
              exact (k' hT).1 hl'
            have go : ∀ r T' lp' s', r < xa b → (∀ j, j < b → lp' j = lp j) → lp' b = nI r → LsB n s' → s'.hl = false → LmR S0 lp' T' s' → itF (bkF cd pr xa xb xc f (b + 1) (pr b)) (r + 1) s' = itF (bkF cd pr xa xb xc f (b + 1) (pr b)) (xa b) (up1 s) → HK l d P (b + 1) T' := by
              intro r
              induction r with
              | zero =>
                intro T' lp' s' hr hlp hb0 B' hl' hT ei
                rw [itF, if_neg (by rw [hl']; decide)] at ei
                have ei : bkF cd pr xa xb xc f (b + 1) (pr b) s' = _ := ei
                refine ih (b + 1) (pr b) s' lp' T' hsub (by omega) B' hl' hT (fun lp2 T2 h2 h3 => ?_)
                rw [ei] at h3 ⊢
                have hlp2 : ∀ j, j < b → lp2 j = lp j := fun j hj => (h2 j (by omega)).trans (hlp j hj)
                refine ⟨fun z => stop T2 lp2 hlp2 h3 z, fun z => ?_⟩
                refine HK.close (h3.rf hR) w2 h60 w1 y1 ((h3.cell (Or.inl rfl)).trans q5) (((h3.cell (by omega)).trans z0).trans (by rw [w3]; rfl)) (((h3.cell (by omega)).trans (z2 w3)).trans (by rw [w4])) ((c0 h3 0).trans y0) (fun U eU hU2 => ?_) (fun U eU _ hpos => ?_)
                · rw [eU]
                  refine rest _ (upd lp2 b (T2.1 140 b - 0)) (fun j hj => ?_) (h3.lp b _) z
                  show (if j = b then _ else lp2 j) = lp j
                  rw [if_neg (by omega)]
                  exact hlp2 j hj
                · rw [h3.2.2.2.2.2.2, h2 b (by omega), hb0] at hpos
                  exact absurd hpos (by decide)
              | succ r ihr =>
                intro T' lp' s' hr hlp hb0 B' hl' hT ei
                rw [itF, if_neg (by rw [hl']; decide)] at ei
                refine ih (b + 1) (pr b) s' lp' T' hsub (by omega) B' hl' hT (fun lp2 T2 h2 h3 => ?_)
                have hlp2 : ∀ j, j < b → lp2 j = lp j := fun j hj => (h2 j (by omega)).trans (hlp j hj)
                refine ⟨fun z => ?_, fun z => ?_⟩
                · rw [itF, if_pos z] at ei
                  rw [ei] at h3 z
                  exact stop T2 lp2 hlp2 h3 z
                · have l2 : T2.1 140 b = nI (r + 1) := by rw [h3.2.2.2.2.2.2, h2 b (by omega), hb0]
                  refine HK.close (h3.rf hR) w2 h60 w1 y1 ((h3.cell (Or.inl rfl)).trans q5) (((h3.cell (by omega)).trans z0).trans (by rw [w3]; rfl)) (((h3.cell (by omega)).trans (z2 w3)).trans (by rw [w4])) ((c0 h3 0).trans y0) (fun U eU hU2 => ?_) (fun U eU _ hpos => ?_)
                  · exact absurd ⟨c12, by rw [l2]; exact nI_lt (a := 0) (by omega) (by omega)⟩ hU2
                  · rw [eU, l2, nI_pred]
                    refine ihr _ (upd lp2 b (nI r)) (bkF cd pr xa xb xc f (b + 1) (pr b) s') (by omega) (fun j hj => ?_) ?_ (bkF_B W E f _ _ s' hsub B') z (h3.lp b _) ei
                    · show (if j = b then _ else lp2 j) = lp j
                      rw [if_neg (by omega)]
                      exact hlp2 j hj
                    · exact if_pos rfl
            refine lw_at (h.rf hR) (by omega) h60 y1 ((h.cell (Or.inl rfl)).trans q5) h46 y ((c0 h 0).trans y0) c14 (sp_doesN (hU.rf hR) (by omega) (by omega) y1 ((c0 hU 0).trans y0) ⟨rfl, (c0 hU 0).trans y0, fun U eU => ⟨fun _ => ?_, fun z => absurd c12 z, fun z => absurd z (by omega)⟩⟩)
            have hV := nm _ _ U hU eU
            have ex : U.1 115 (184 + 6 * b + 1) - 1 = nI (xa b - 1) := by
              rw [c0 hV 1, k3, show (1 : Int32) = nI 1 from rfl, nI_sub k2]
            rw [ex]
            refine go (xa b - 1) _ (upd lp b (nI (xa b - 1))) (up1 s) (by omega) (fun j hj => ?_) ?_ B1 hl (hV.lp b _) (by rw [Nat.sub_add_cancel k2])
            · show (if j = b then _ else lp j) = lp j
              rw [if_neg (by omega)]
            · exact if_pos rfl
          · rw [if_neg c12] at k
            by_cases c11 : 1100 ≤ cd b
            · rw [if_pos c11] at k
              have ho := op_11 c11
              obtain ⟨k1, -, k4, k5⟩ := e.t11 c11
              obtain ⟨w1, w2, w3, w4⟩ := W.2.2.2.1 b (by omega) ho
              obtain ⟨z0, z1, z2⟩ := qe (pr b) w2
              have pt := w.2.2.2 b (Nat.le_refl _) hb ho
              have hsub := w.sub W hb ho
              refine lw_at (h.rf hR) (by omega) h60 y1 ((h.cell (Or.inl rfl)).trans q5) h46 y ((c0 h 0).trans y0) c14 (sp_doesN (hU.rf hR) (by omega) (by omega) y1 ((c0 hU 0).trans y0) ⟨rfl, (c0 hU 0).trans y0, fun U eU => ⟨fun z => absurd z c12, fun _ z => absurd z (by omega), fun _ => ?_⟩⟩)
              have hV := nm _ _ U hU eU
              refine sp_holdsM (d := d + 4) hR (by omega) B1 hV k5 ((c0 hV 0).trans y0) (c0 hV 1) (c0 hV 2) (c0 hV 5) (fun v hv => ⟨fun z => ?_, fun z => ?_⟩)
              · have hh : hdP (cd b) (xa b) (xb b) (xc b) s.g = true := by
                  cases q : hdP (cd b) (xa b) (xb b) (xc b) s.g with
                  | true => rfl
                  | false => exact absurd (hv.mpr q) z
                rw [if_pos hh] at k
                refine ih (b + 1) (pr b) (up1 s) lp U hsub (by omega) B1 hl hV (fun lp2 T2 h2 h3 => ⟨fun z => ?_, fun z => ?_⟩)
                · have k' := k lp2 T2 (fun j hj => h2 j (by omega))
                  rw [bkF_hl z] at k'
                  exact (k' h3).1 z
                · refine HK.close (h3.rf hR) w2 h60 w1 y1 ((h3.cell (Or.inl rfl)).trans q5) (((h3.cell (by omega)).trans z0).trans (by rw [w3]; rfl)) (((h3.cell (by omega)).trans (z2 w3)).trans (by rw [w4])) ((c0 h3 0).trans y0) (fun U2 eU2 _ => ?_) (fun U2 eU2 z _ => absurd z c12)
                  rw [eU2]
                  refine ih (pr b + 1) t _ (upd lp2 b (T2.1 140 b - 0)) _ (w.rest W hb ho) (by omega) (bkF_B W E f _ _ _ hsub B1) z (h3.lp b _) (fun lp3 T3 h4 h5 => k lp3 T3 (fun j hj => ?_) h5)
                  rw [h4 j (by omega)]
                  show (if j = b then _ else lp2 j) = lp j
                  rw [if_neg (by omega)]
                  exact h2 j (by omega)
              · have hh : hdP (cd b) (xa b) (xb b) (xc b) s.g = false := hv.mp z
                rw [if_neg (by rw [hh]; decide)] at k
                refine ⟨(hV.rf hR).at (by decide), pr b, (c0 hV 4).trans k4, ?_⟩
                exact ih (pr b + 1) t (up1 s) lp U (w.rest W hb ho) (by omega) B1 hl hV (fun lp3 T3 h4 h5 => k lp3 T3 (fun j hj => h4 j (by omega)) h5)
            · rw [if_neg c11] at k
              obtain ⟨k1, k2, k3, k4, k5⟩ := e.ty c14 c12 c11
              have hs' : (stQ (cd b) (xa b) (xb b) (up1 s)).2.ms = s.ms ∧ (stQ (cd b) (xa b) (xb b) (up1 s)).2.hl = s.hl := stQ_ms _ _ _ _
              refine lw_at (h.rf hR) (by omega) h60 y1 ((h.cell (Or.inl rfl)).trans q5) h46 y ((c0 h 0).trans y0) c14 (sp_doesM hR (by omega) B1 hU k1 ((c0 hU 0).trans y0) (fun z => (c0 hU 1).trans (k3 z).2) (fun z => (c0 hU 2).trans (k4 z).2) (fun v V hv hV => ⟨hV.1.R.trans h.1.R.symm, (c0 hV 0).trans y0, fun U eU => ⟨fun z => absurd z c12, fun _ _ => ?_, fun z => absurd z c11⟩⟩))
              rw [eU]
              refine ih (b + 1) t _ lp _ (w.next W hb (op_no c12 c11)) (by omega) (LsB.ms1 (B1.st1 k1)) ?_ (LmR.mss hV hv ?_) (fun lp3 T3 h4 h5 => k lp3 T3 (fun j hj => h4 j (by omega)) h5)
              · show (stQ (cd b) (xa b) (xb b) (up1 s)).2.hl = false
                rw [hs'.2]
                exact hl
              · rw [hs'.1]
                exact h.2.2.2.2.2.1.1
    · have : b = t := by have := w.1; omega
      subst this
      rw [bkF_end] at k
      exact ⟨(k lp T (fun _ _ => rfl) h).2 hl, fun z => absurd z (Nat.lt_irrefl _)⟩
end RB
