/-! a life: the reference's steps -/
def LmX (k j : Nat) : Prop := MXw k j ∨ (k = 115 ∧ 10 ≤ j ∧ j < 17) ∨ (k = 114 ∧ (j = 45 ∨ j = 46)) ∨ k = 140 ∨ k = 141
def LmR (S0 : aw_S) (lp : Nat → Int32) (T : aw_S) (s : LvS) : Prop := FrI LmX S0 T ∧ MdG T.1 0 s.g ∧ T.1 115 4 = S0.1 115 4 + nI s.ci + nI s.co ∧ T.1 114 45 = nI s.dr ∧ T.1 114 46 = nI s.st ∧ (T.1 141 0 = nI s.ms ∧ T.1 141 1 = nI (s.ci + s.co) ∧ T.1 141 2 = nI s.ci ∧ T.1 141 3 = nI s.co ∧ T.1 141 4 = bI s.lf) ∧ T.1 140 = lp
theorem i4_add (x : Int32) (a b c d : Nat) : x + nI a + nI b + nI c + nI d = x + nI (a + c) + nI (b + d) := by
  rw [Int32.add_assoc, Int32.add_assoc, Int32.add_assoc, nI_add, nI_add, nI_add, Int32.add_assoc x, nI_add]
  congr 2
  omega
section LM
variable {l : Launch} {d n : Nat} {S0 T : aw_S} {s : LvS} {lp : Nat → Int32}
theorem LmR.go {T1 T2 : aw_S} {g' : GM} {ci co : Nat} (h : LmR S0 lp T s) (F : FrI MXw T T1) (G : MdG T1.1 0 g') (hb : bdG g') (e4 : T1.1 115 4 = T.1 115 4 + nI ci + nI co) (F2 : ∀ k, k ≠ 141 → T2.1 k = T1.1 k) (F3 : T2.2 = T1.2) (r0 : T2.1 141 0 = T.1 141 0) (r1 : T2.1 141 1 = T.1 141 1 + nI (ci + co)) (r2 : T2.1 141 2 = T.1 141 2 + nI ci) (r3 : T2.1 141 3 = T.1 141 3 + nI co) (r4 : T2.1 141 4 = T.1 141 4) : LmR S0 lp T2 (g', s.dr, s.st, s.ms, s.ci + ci, s.co + co, s.hl, s.lf) := by
  obtain ⟨h1, h2, h3, h4, h5, ⟨q0, q1, q2, q3, q4⟩, h6⟩ := h
  have n114 : ∀ j, j = 45 ∨ j = 46 → T1.1 114 j = T.1 114 j := fun j hj => F.1 _ _ (by unfold MXw MXd; omega)
  have n140 : T1.1 140 = T.1 140 := F.cell (fun j => by unfold MXw MXd; omega)
  refine ⟨⟨fun k j q => ?_, ?_⟩, G.fr hb.1 hb.2.2.2.2.1 (fun j _ => by rw [F2 115 (by omega)]), ?_, ?_, ?_, ⟨?_, ?_, ?_, ?_, ?_⟩, ?_⟩
  · have k141 : k ≠ 141 := fun z => q (Or.inr (Or.inr (Or.inr (Or.inr z))))
    rw [F2 k k141, F.1 k j (fun z => q (Or.inl z))]
    exact h1.1 k j q
  · rw [F3, F.2]
    exact h1.2
  · rw [F2 115 (by omega), e4, h3]
    exact i4_add _ _ _ _ _
  · rw [F2 114 (by omega), n114 45 (by omega)]; exact h4
  · rw [F2 114 (by omega), n114 46 (by omega)]; exact h5
  · rw [r0]; exact q0
  · rw [r1, q1, nI_add]
    congr 1
    show s.ci + s.co + (ci + co) = s.ci + ci + (s.co + co)
    omega
  · rw [r2, q2, nI_add]
  · rw [r3, q3, nI_add]
  · rw [r4]; exact q4
  · rw [F2 140 (by omega), n140]; exact h6
theorem MXdw {T T1 : aw_S} (F : FrI MXd T T1) : FrI MXw T T1 := F.mono (fun k j q => Or.inl q)
theorem sp_passesBy {P : Int32 → aw_S → Prop} {gap over : Nat} (hR : RefsOk S0.2.2) (B : LsB n s) (h : LmR S0 lp T s) (hg : gap < gpN n) (ho : over < 2) (k : ∀ v T', (v = 0 ∨ v = 1) → (v = 0 ↔ (psP s gap over).1 = false) → LmR S0 lp T' (psP s gap over).2 → P v T') : Sp l m_Md_passesBy (d + 1 + 1 + 1 + 1 + 1) 0 0 [.ref 114, .int (nI gap), .int (nI over)] sh0 T (gI sh0 P) := by
  obtain ⟨b1, b2, b3, b4, b5⟩ := id B
  have hR' : RefsOk T.2.2 := by rw [h.1.R]; exact hR
  have hM := MdS.mk0 hR'
  have hg' : gap < gpN s.g.n := by rw [b3]; exact hg
  obtain ⟨p1, -⟩ := ps_ok b1 b2 hg' ho
  refine e_Md_passesBy rfl (sp_danced hM b1 b2 h.2.1 hg' ho (fun T1 F G e4 => ?_))
  have hR1 : T1.2.2 114 48 = some 141 := by rw [F.R]; exact hR'.at (by decide)
  have c141 : T1.1 141 = T.1 141 := F.cell (fun j => by unfold MXd; omega)
  rw [k1_n, k2_n] at e4
  have hlt := ps_lt s.g gap over
  have e : psP s gap over = (decide ((psG s.g gap over).1 ≠ 0), ((psG s.g gap over).2, s.dr, s.st, s.ms, s.ci + (if (psG s.g gap over).1 = 1 then 1 else 0), s.co + (if (psG s.g gap over).1 = 2 then 1 else 0), s.hl, s.lf)) := rfl
  rw [e] at k
  have v1 : vp_in 1 5 := vp_in_nI (n := 1) (by omega) (by omega)
  have v2 : vp_in 2 5 := vp_in_nI (n := 2) (by omega) (by omega)
  have v3 : vp_in 3 5 := vp_in_nI (n := 3) (by omega) (by omega)
  have key := fun (T2 : aw_S) => h.go (T2 := T2) (MXdw F) G p1 e4
  generalize hw : (psG s.g gap over).1 = w at *
  have h3 : w = 0 ∨ w = 1 ∨ w = 2 := by omega
  rcases h3 with rfl | rfl | rfl
  · refine ⟨fun q => absurd rfl q, fun _ => k 0 T1 (Or.inl rfl) ⟨fun _ => rfl, fun _ => rfl⟩ (key T1 (fun _ _ => rfl) rfl ?_ ?_ ?_ ?_ ?_)⟩
    · rw [c141]
    · rw [c141]; exact (Int32.add_zero _).symm
    · rw [c141]; exact (Int32.add_zero _).symm
    · rw [c141]; exact (Int32.add_zero _).symm
    · rw [c141]
  · refine ⟨fun _ => ⟨141, hR1, 5, rfl, v1, v1, v2, v2, k 1 _ (Or.inr rfl) ⟨fun z => absurd z (by decide), fun z => absurd (show true = false from z) (by decide)⟩ (key _ (fun c hc => ?_) rfl ?_ ?_ ?_ ?_ ?_)⟩, fun q => absurd q (by decide)⟩
    · rw [uI_ne _ _ _ hc, uI_ne _ _ _ hc]
    · show (aw_uI (aw_uI T1 141 1 (T1.1 141 1 + 1)) 141 2 _).1 141 0 = _
      rw [uI_at, if_pos rfl, if_neg (by decide), uI_at, if_pos rfl, if_neg (by decide), c141]
    · show (aw_uI (aw_uI T1 141 1 (T1.1 141 1 + 1)) 141 2 _).1 141 1 = _
      rw [uI_at, if_pos rfl, if_neg (by decide), uI_at, if_pos rfl, if_pos rfl, c141]
      rfl
    · show (aw_uI (aw_uI T1 141 1 (T1.1 141 1 + 1)) 141 2 ((aw_uI T1 141 1 (T1.1 141 1 + 1)).1 141 2 + 1)).1 141 2 = _
      rw [uI_at, if_pos rfl, if_pos rfl, uI_at, if_pos rfl, if_neg (by decide), c141]
      rfl
    · show (aw_uI (aw_uI T1 141 1 (T1.1 141 1 + 1)) 141 2 _).1 141 3 = _
      rw [uI_at, if_pos rfl, if_neg (by decide), uI_at, if_pos rfl, if_neg (by decide), c141]
      exact (Int32.add_zero _).symm
    · show (aw_uI (aw_uI T1 141 1 (T1.1 141 1 + 1)) 141 2 _).1 141 4 = _
      rw [uI_at, if_pos rfl, if_neg (by decide), uI_at, if_pos rfl, if_neg (by decide), c141]
  · refine ⟨fun _ => ⟨141, hR1, 5, rfl, v1, v1, v3, v3, k 1 _ (Or.inr rfl) ⟨fun z => absurd z (by decide), fun z => absurd (show true = false from z) (by decide)⟩ (key _ (fun c hc => ?_) rfl ?_ ?_ ?_ ?_ ?_)⟩, fun q => absurd q (by decide)⟩
    · rw [uI_ne _ _ _ hc, uI_ne _ _ _ hc]
    · show (aw_uI (aw_uI T1 141 1 (T1.1 141 1 + 1)) 141 3 _).1 141 0 = _
      rw [uI_at, if_pos rfl, if_neg (by decide), uI_at, if_pos rfl, if_neg (by decide), c141]
    · show (aw_uI (aw_uI T1 141 1 (T1.1 141 1 + 1)) 141 3 _).1 141 1 = _
      rw [uI_at, if_pos rfl, if_neg (by decide), uI_at, if_pos rfl, if_pos rfl, c141]
      rfl
    · show (aw_uI (aw_uI T1 141 1 (T1.1 141 1 + 1)) 141 3 _).1 141 2 = _
      rw [uI_at, if_pos rfl, if_neg (by decide), uI_at, if_pos rfl, if_neg (by decide), c141]
      exact (Int32.add_zero _).symm
    · show (aw_uI (aw_uI T1 141 1 (T1.1 141 1 + 1)) 141 3 ((aw_uI T1 141 1 (T1.1 141 1 + 1)).1 141 3 + 1)).1 141 3 = _
      rw [uI_at, if_pos rfl, if_pos rfl, uI_at, if_pos rfl, if_neg (by decide), c141]
      rfl
    · show (aw_uI (aw_uI T1 141 1 (T1.1 141 1 + 1)) 141 3 _).1 141 4 = _
      rw [uI_at, if_pos rfl, if_neg (by decide), uI_at, if_pos rfl, if_neg (by decide), c141]
theorem sp_backBy {P : Int32 → aw_S → Prop} (hR : RefsOk S0.2.2) (B : LsB n s) (h : LmR S0 lp T s) (k : ∀ v T', (v = 0 ∨ v = 1) → (v = 0 ↔ (bkP s).1 = false) → LmR S0 lp T' (bkP s).2 → P v T') : Sp l m_Md_backBy (d + 1 + 1 + 1 + 1) 0 0 [.ref 114] sh0 T (gI sh0 P) := by
  obtain ⟨b1, b2, b3, b4, b5⟩ := id B
  have hR' : RefsOk T.2.2 := by rw [h.1.R]; exact hR
  have hM := MdS.mk0 hR'
  have v1 : vp_in 1 5 := vp_in_nI (n := 1) (by omega) (by omega)
  have v3 : vp_in 3 5 := vp_in_nI (n := 3) (by omega) (by omega)
  refine e_Md_backBy rfl (sp_undoes hM b1 h.2.1 (fun T1 hm F G e4 => ?_) (fun hm => ?_))
  · have e : bkP s = (true, (rmG s.g (s.g.m - 1), s.dr, s.st, s.ms, s.ci, s.co + 1, s.hl, s.lf)) := by
      unfold bkP
      rw [if_neg (by omega)]
      rfl
    rw [e] at k
    have hR1 : T1.2.2 114 48 = some 141 := by rw [F.R]; exact hR'.at (by decide)
    have c141 : T1.1 141 = T.1 141 := F.cell (fun j => by unfold MXd; omega)
    have e4' : T1.1 115 4 = T.1 115 4 + nI 0 + nI 1 := by
      rw [e4, show nI 0 = (0 : Int32) from rfl, Int32.add_zero]
      rfl
    refine ⟨fun _ => ⟨141, hR1, 5, rfl, v1, v1, v3, v3, k 1 _ (Or.inr rfl) ⟨fun z => absurd z (by decide), fun z => absurd (show true = false from z) (by decide)⟩ (h.go (ci := 0) (co := 1) (MXdw F) G (b1.rem (by omega)) e4' (fun c hc => ?_) rfl ?_ ?_ ?_ ?_ ?_)⟩, fun q => absurd q (by decide)⟩
    · rw [uI_ne _ _ _ hc, uI_ne _ _ _ hc]
    · show (aw_uI (aw_uI T1 141 1 (T1.1 141 1 + 1)) 141 3 _).1 141 0 = _
      rw [uI_at, if_pos rfl, if_neg (by decide), uI_at, if_pos rfl, if_neg (by decide), c141]
    · show (aw_uI (aw_uI T1 141 1 (T1.1 141 1 + 1)) 141 3 _).1 141 1 = _
      rw [uI_at, if_pos rfl, if_neg (by decide), uI_at, if_pos rfl, if_pos rfl, c141]
      rfl
    · show (aw_uI (aw_uI T1 141 1 (T1.1 141 1 + 1)) 141 3 _).1 141 2 = _
      rw [uI_at, if_pos rfl, if_neg (by decide), uI_at, if_pos rfl, if_neg (by decide), c141]
      exact (Int32.add_zero _).symm
    · show (aw_uI (aw_uI T1 141 1 (T1.1 141 1 + 1)) 141 3 ((aw_uI T1 141 1 (T1.1 141 1 + 1)).1 141 3 + 1)).1 141 3 = _
      rw [uI_at, if_pos rfl, if_pos rfl, uI_at, if_pos rfl, if_neg (by decide), c141]
      rfl
    · show (aw_uI (aw_uI T1 141 1 (T1.1 141 1 + 1)) 141 3 _).1 141 4 = _
      rw [uI_at, if_pos rfl, if_neg (by decide), uI_at, if_pos rfl, if_neg (by decide), c141]
  · have e : bkP s = (false, s) := by
      unfold bkP
      rw [if_pos hm]
    rw [e] at k
    exact ⟨fun q => absurd rfl q, fun _ => k 0 T (Or.inl rfl) ⟨fun _ => rfl, fun _ => rfl⟩ h⟩
theorem col_id {g : GM} {d c : Nat} (h : g.col d = c) : colG g d c = g := by
  have e : upN g.col d c = g.col := funext fun i => by
    unfold upN
    split
    · rename_i z
      rw [z, h]
    · rfl
  unfold colG
  rw [e]
  rfl
theorem sp_paintsM {P : Int32 → aw_S → Prop} {x1 x2 : Nat} (hR : RefsOk S0.2.2) (B : LsB n s) (h : LmR S0 lp T s) (h1 : x1 < n) (h2 : x2 ≤ 5) (k : ∀ v T', (v = 0 ∨ v = 1) → (v = 0 ↔ (ptP s x1 x2).1 = false) → LmR S0 lp T' (ptP s x1 x2).2 → P v T') : Sp l m_Md_paints (d + 1) 0 0 [.ref 114, .int (nI x1), .int (nI x2)] sh0 T (gI sh0 P) := by
  obtain ⟨b1, b2, b3, b4, b5⟩ := id B
  have hR' : RefsOk T.2.2 := by rw [h.1.R]; exact hR
  have hn : s.g.n ≤ 7 := b1.1
  have c5 := b1.2.2.2.2.2.2.1 x1 (by omega)
  have hv : vp_in (nI (10 + x1)) 3864 := vp_in_nI (by omega) (by omega)
  have up : LmR S0 lp (aw_uI T 115 (10 + x1) (nI x2)) (colG s.g x1 x2, s.dr, s.st, s.ms, s.ci, s.co, s.hl, s.lf) := by
    obtain ⟨g1, g2, g3, g4, g5, g6, g7⟩ := h
    refine ⟨g1.uI _ (Or.inr (Or.inl ⟨rfl, by omega, by omega⟩)), g2.col b1 (by omega), ?_, ?_, ?_, ?_, ?_⟩
    · rw [uI_at, if_pos rfl, if_neg (by omega)]; exact g3
    · rw [uI_ne _ _ _ (by omega)]; exact g4
    · rw [uI_ne _ _ _ (by omega)]; exact g5
    · rw [uI_ne _ _ _ (by omega)]; exact g6
    · rw [uI_ne _ _ _ (by omega)]; exact g7
  refine e_Md_paints rfl ⟨115, hR'.at (by decide), 3864, rfl, ?_⟩
  rw [nB10, nI_clamp (by omega), h.2.1.c5 (by omega)]
  refine ⟨hv, fun q => ⟨hv, ?_⟩, fun q => ⟨hv, ?_⟩⟩
  · have c : s.g.col x1 = x2 := (nI_inj (by omega) (by omega)).mp q
    have e : ptP s x1 x2 = (false, s) := by
      unfold ptP
      rw [if_pos c]
    rw [e] at k
    rw [col_id c] at up
    exact k 0 _ (Or.inl rfl) ⟨fun _ => rfl, fun _ => rfl⟩ up
  · have c : ¬ s.g.col x1 = x2 := fun z => q (by rw [z])
    have e : ptP s x1 x2 = (true, (colG s.g x1 x2, s.dr, s.st, s.ms, s.ci, s.co, s.hl, s.lf)) := by
      unfold ptP
      rw [if_neg c]
      rfl
    rw [e] at k
    exact k 1 _ (Or.inr rfl) ⟨fun z => absurd z (by decide), fun z => absurd (show true = false from z) (by decide)⟩ up
theorem sp_drawM {P : Int32 → aw_S → Prop} {p : Nat} (hp : 0 < p) (hp2 : p < 100) (B : LsB n s) (h : LmR S0 lp T s) (k : ∀ T', LmR S0 lp T' (s.g, dnN s.dr, s.st, s.ms, s.ci, s.co, s.hl, s.lf) → P (nI (dnN s.dr / 8 % p)) T') : Sp l m_Md_draw (d + 1) 0 0 [.ref 114, .int (nI p)] sh0 T (gI sh0 P) := by
  obtain ⟨g1, g2, g3, g4, g5, g6, g7⟩ := h
  have b1 := B.1
  refine e_Md_draw rfl ⟨fun q => absurd ((nI_inj (b := 0) (by omega) (by omega)).mp q) (by omega), ?_⟩
  rw [g4, pk_draw B.2.2.2.1, uI_at, if_pos rfl, if_pos rfl, pk_by (dn_lt _) hp hp2]
  refine k _ ⟨g1.uI _ (Or.inr (Or.inr (Or.inl ⟨rfl, Or.inl rfl⟩))), g2.fr b1.1 b1.2.2.2.2.1 (fun j _ => by rw [uI_ne _ _ _ (by omega)]), ?_, ?_, ?_, ?_, ?_⟩
  · rw [uI_ne _ _ _ (by omega)]; exact g3
  · rw [uI_at, if_pos rfl, if_pos rfl]
  · rw [uI_at, if_pos rfl, if_neg (by omega)]; exact g5
  · rw [uI_ne _ _ _ (by omega)]; exact g6
  · rw [uI_ne _ _ _ (by omega)]; exact g7
theorem sp_doesAny {P : Int32 → aw_S → Prop} (hR : RefsOk S0.2.2) (B : LsB n s) (h : LmR S0 lp T s) (k : ∀ v T', (v = 0 ∨ v = 1) → (v = 0 ↔ (anP s).1 = false) → LmR S0 lp T' (anP s).2 → P v T') : Sp l m_Md_doesAny (d + 1 + 1 + 1 + 1 + 1 + 1) 0 0 [.ref 114] sh0 T (gI sh0 P) := by
  obtain ⟨b1, b2, b3, b4, b5⟩ := id B
  have hR' : RefsOk T.2.2 := by rw [h.1.R]; exact hR
  have hM := MdS.mk0 hR'
  have hn : s.g.n ≤ 7 := b1.1
  have hgp := gp_le s.g.n
  have hod : s.g.od ≤ 16 := b1.2.1
  refine e_Md_doesAny rfl (sp_Md_gapsOf (s := 0) hM (by omega) hn h.2.1.1 ⟨fun q => ?_, fun q => ?_⟩)
  · have g0 : gpN s.g.n ≠ 0 := fun z => q (by rw [z]; rfl)
    have ea : anP s = psP (s.g, dnN (dnN (dnN s.dr)), s.st, s.ms, s.ci, s.co, s.hl, s.lf) (dnN s.dr / 8 % gpN s.g.n) (if dnN (dnN (dnN s.dr)) / 8 % 16 < s.g.od then 1 - dnN (dnN s.dr) / 8 % 2 else dnN (dnN s.dr) / 8 % 2) := by
      unfold anP
      rw [if_neg g0]
    rw [ea] at k
    refine sp_Md_gapsOf (s := 0) hM (by omega) hn h.2.1.1 ?_
    refine sp_drawM (p := gpN s.g.n) (by omega) (by omega) B h (fun T1 h1 => ?_)
    refine sp_drawM (p := 2) (n := n) (s := (s.g, dnN s.dr, s.st, s.ms, s.ci, s.co, s.hl, s.lf)) (by omega) (by omega) ⟨b1, b2, b3, dn_lt s.dr, b5⟩ h1 (fun T2 h2 => ?_)
    refine sp_drawM (p := 16) (n := n) (s := (s.g, dnN (dnN s.dr), s.st, s.ms, s.ci, s.co, s.hl, s.lf)) (by omega) (by omega) ⟨b1, b2, b3, dn_lt (dnN s.dr), b5⟩ h2 (fun T3 h3 => ?_)
    have od : T3.1 115 1 = nI s.g.od := h3.2.1.2.1
    have hgg : dnN s.dr / 8 % gpN s.g.n < gpN n := by rw [← b3]; exact Nat.mod_lt _ (by omega)
    have B3 : LsB n (s.g, dnN (dnN (dnN s.dr)), s.st, s.ms, s.ci, s.co, s.hl, s.lf) := ⟨b1, b2, b3, dn_lt (dnN (dnN s.dr)), b5⟩
    refine ⟨115, by rw [h3.1.R]; exact hR.at (by decide), 3864, rfl, vp_in_nI (n := 1) (by omega) (by omega), fun q => ?_, fun q => ?_⟩
    · have q : T3.1 115 1 ≤ nI (dnN (dnN (dnN s.dr)) / 8 % 16) := q
      rw [od] at q
      have c : ¬ dnN (dnN (dnN s.dr)) / 8 % 16 < s.g.od := by
        have := (nI_leI (by omega) (by omega)).mp q
        omega
      rw [if_neg c] at k
      exact sp_passesBy hR B3 h3 hgg (by omega) (fun v U e1 e2 hU => ⟨e1, k v U e1 e2 hU⟩)
    · have q : ¬ T3.1 115 1 ≤ nI (dnN (dnN (dnN s.dr)) / 8 % 16) := q
      rw [od] at q
      have c : dnN (dnN (dnN s.dr)) / 8 % 16 < s.g.od := by
        have : ¬ s.g.od ≤ dnN (dnN (dnN s.dr)) / 8 % 16 := fun z => q (nI_le z (by omega))
        omega
      rw [if_pos c] at k
      rw [show (1 : Int32) - nI (dnN (dnN s.dr) / 8 % 2) = nI (1 - dnN (dnN s.dr) / 8 % 2) by rw [show (1 : Int32) = nI 1 from rfl, nI_sub (by omega)]]
      exact sp_passesBy hR B3 h3 hgg (by omega) (fun v U e1 e2 hU => ⟨e1, k v U e1 e2 hU⟩)
  · have g0 : gpN s.g.n = 0 := (nI_inj (b := 0) (by omega) (by omega)).mp q
    have ea : anP s = (false, s) := by
      unfold anP
      rw [if_pos g0]
    rw [ea] at k
    exact k 0 T (Or.inl rfl) ⟨fun _ => rfl, fun _ => rfl⟩ h
theorem sp_weavesBy {P : Int32 → aw_S → Prop} {t : Nat} (hR : RefsOk S0.2.2) (B : LsB n s) (h : LmR S0 lp T s) (ht : t ≤ 9) (k : ∀ v T', (v = 0 ∨ v = 1) → (v = 0 ↔ (wvQ s t).1 = false) → LmR S0 lp T' (wvQ s t).2 → P v T') : Sp l m_Md_weavesBy (d + 1 + 1 + 1 + 1 + 1 + 1 + 1) 0 0 [.ref 114, .int (nI t)] sh0 T (gI sh0 P) := by
  obtain ⟨b1, b2, b3, b4, b5⟩ := id B
  have hR' : RefsOk T.2.2 := by rw [h.1.R]; exact hR
  have hn : s.g.n ≤ 7 := b1.1
  have v1 : vp_in 1 5 := vp_in_nI (n := 1) (by omega) (by omega)
  have v2 : vp_in 2 5 := vp_in_nI (n := 2) (by omega) (by omega)
  have v3 : vp_in 3 5 := vp_in_nI (n := 3) (by omega) (by omega)
  have key : ∀ j r (st : GM × Nat × Nat) U, r + j = t → WvB s.g.n s.g st → st.2.1 ≤ 8 * r → st.2.2 ≤ 8 * r → wvT s.g.n j st = wvT s.g.n t (s.g, 0, 0) → FrI (fun k j => MXw k j ∨ k = 141) T U → MdG U.1 0 st.1 → U.1 115 4 = T.1 115 4 + nI st.2.1 + nI st.2.2 → U.1 141 0 = T.1 141 0 → U.1 141 1 = T.1 141 1 → U.1 141 2 = T.1 141 2 + nI st.2.1 → U.1 141 3 = T.1 141 3 + nI st.2.2 → U.1 141 4 = T.1 141 4 → AW l m_Md_weavesBy (d + 1 + 1 + 1 + 1 + 1 + 1 + 1) 0 0 (gI sh0 P) 0 0 4 [.ref 114, .int (nI t), .int (nI (st.2.1 + st.2.2)), .int (nI r)] [] sh0 U := by
    intro j
    induction j with
    | zero =>
      intro r st U hr W u1 u2 ew F M e4 r0 r1 r2 r3 r4
      have ew : st = wvT s.g.n t (s.g, 0, 0) := ew
      have hR1 : U.2.2 114 48 = some 141 := by rw [F.R]; exact hR'.at (by decide)
      have eq : wvQ s t = (decide (st.2.1 + st.2.2 ≠ 0), (st.1, s.dr, s.st, s.ms, s.ci + st.2.1, s.co + st.2.2, s.hl, s.lf)) := by
        unfold wvQ
        rw [ew]
        rfl
      rw [eq] at k
      have fin : LmR S0 lp (aw_uI U 141 1 (U.1 141 1 + nI (st.2.1 + st.2.2))) (st.1, s.dr, s.st, s.ms, s.ci + st.2.1, s.co + st.2.2, s.hl, s.lf) := by
        have U1 : FrI MXw T ((fun k j => if k = 141 then T.1 141 j else U.1 k j), U.2) := ⟨fun k j q => by
          show (if k = 141 then T.1 141 j else U.1 k j) = T.1 k j
          by_cases z : k = 141
          · rw [if_pos z, z]
          · rw [if_neg z]; exact F.1 k j (fun y => y.elim q z), F.2⟩
        refine h.go (T1 := ((fun k j => if k = 141 then T.1 141 j else U.1 k j), U.2)) U1 ?_ W.1 ?_ (fun c hc => ?_) rfl ?_ ?_ ?_ ?_ ?_
        · refine M.fr W.1.1 W.1.2.2.2.2.1 (fun j _ => ?_)
          show (if (115 : Nat) = 141 then T.1 141 (0 + j) else U.1 115 (0 + j)) = U.1 115 (0 + j)
          exact if_neg (by decide)
        · exact e4
        · rw [uI_ne _ _ _ hc]
          funext j
          exact (if_neg hc).symm
        · rw [uI_at, if_pos rfl, if_neg (by decide)]; exact r0
        · rw [uI_at, if_pos rfl, if_pos rfl, r1]
        · rw [uI_at, if_pos rfl, if_neg (by decide)]; exact r2
        · rw [uI_at, if_pos rfl, if_neg (by decide)]; exact r3
        · rw [uI_at, if_pos rfl, if_neg (by decide)]; exact r4
      refine s_Md_weavesBy_4 rfl ⟨fun _ => ⟨141, hR1, 5, rfl, v1, v1, fun z => k 0 _ (Or.inl rfl) ⟨fun _ => ?_, fun _ => rfl⟩ fin, fun z => k 1 _ (Or.inr rfl) ⟨fun y => absurd y (by decide), fun y => ?_⟩ fin⟩, fun z => absurd (nI_le (show t ≤ r by omega) (by omega)) z⟩
      · have := (nI_leI (b := 0) (by omega) (by omega)).mp z
        show decide (st.2.1 + st.2.2 ≠ 0) = false
        rw [decide_eq_false_iff_not]
        omega
      · have y : decide (st.2.1 + st.2.2 ≠ 0) = false := y
        rw [decide_eq_false_iff_not] at y
        have : st.2.1 + st.2.2 = 0 := by omega
        exact absurd (by rw [this]; exact Int32.le_refl _) z
    | succ j ih =>
      intro r st U hr W u1 u2 ew F M e4 r0 r1 r2 r3 r4
      have ew : wvT s.g.n j (wvO s.g.n st) = wvT s.g.n t (s.g, 0, 0) := ew
      have hM := MdS.mk0 (show RefsOk U.2.2 by rw [F.R]; exact hR')
      refine s_Md_weavesBy_4 rfl ⟨fun z => absurd ((nI_leI (by omega) (by omega)).mp z) (by omega), fun _ => sp_Md_weaving (n := s.g.n) (g := s.g) hM hn W M (by omega) (fun V C => ?_)⟩
      obtain ⟨c1, c2, c3, c4, c5, c6, c7⟩ := C
      have up := wvO_up (n := s.g.n) st
      have c141 : V.1 141 = U.1 141 := c1.cell (fun j => by unfold MXw MXd; omega)
      have hR1 : V.2.2 114 48 = some 141 := by rw [c1.R, F.R]; exact hR'.at (by decide)
      refine ⟨141, hR1, 5, rfl, v2, v2, v3, v3, ?_⟩
      rw [show ((2 : Int32).toNatClampNeg) = 2 from rfl, show ((3 : Int32).toNatClampNeg) = 3 from rfl, nI_add, nI_1]
      rw [show st.2.1 + st.2.2 + ((wvO s.g.n st).2.1 - st.2.1 + ((wvO s.g.n st).2.2 - st.2.2)) = (wvO s.g.n st).2.1 + (wvO s.g.n st).2.2 by omega]
      refine ih (r + 1) (wvO s.g.n st) _ (by omega) (wvO_B W) (by omega) (by omega) ew ?_ ?_ ?_ ?_ ?_ ?_ ?_ ?_
      · exact ((F.trans (c1.mono (fun k j q => Or.inl q))).uI _ (Or.inr rfl)).uI _ (Or.inr rfl)
      · have W' := wvO_B W
        refine c2.fr W'.1.1 W'.1.2.2.2.2.1 (fun j _ => ?_)
        rw [uI_ne _ _ _ (by omega), uI_ne _ _ _ (by omega)]
      · rw [uI_ne _ _ _ (by omega), uI_ne _ _ _ (by omega), c5, e4, i4_add]
        congr 2
        · congr 1; omega
        · omega
      · rw [uI_at, if_pos rfl, if_neg (by decide), uI_at, if_pos rfl, if_neg (by decide), c141]; exact r0
      · rw [uI_at, if_pos rfl, if_neg (by decide), uI_at, if_pos rfl, if_neg (by decide), c141]; exact r1
      · rw [uI_at, if_pos rfl, if_neg (by decide), uI_at, if_pos rfl, if_pos rfl, c141, r2, c3, Int32.add_assoc, nI_add]
        congr 2
        omega
      · rw [uI_at, if_pos rfl, if_pos rfl, uI_at, if_pos rfl, if_neg (by decide), uI_ne _ _ _ (by omega), c141, r3, c4, Int32.add_assoc, nI_add]
        congr 2
        omega
      · rw [uI_at, if_pos rfl, if_neg (by decide), uI_at, if_pos rfl, if_neg (by decide), c141]; exact r4
  refine e_Md_weavesBy rfl (key t 0 (s.g, 0, 0) T (by omega) ⟨b1, b2, rfl, rfl, rfl⟩ (Nat.zero_le _) (Nat.zero_le _) rfl (FrI.refl _ _) h.2.1 ?_ rfl rfl ?_ ?_ rfl)
  · show _ = T.1 115 4 + nI 0 + nI 0
    rw [show nI 0 = (0 : Int32) from rfl, Int32.add_zero, Int32.add_zero]
  · exact (Int32.add_zero _).symm
  · exact (Int32.add_zero _).symm
end LM
