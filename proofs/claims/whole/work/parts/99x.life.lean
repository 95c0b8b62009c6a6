/-! a life: the reference's walk over the entries -/
theorem n184 (k : Nat) : (184 : Int32) + (6 : Int32) * nI k = nI (184 + 6 * k) := by rw [show (6 : Int32) = nI 6 from rfl, pk_mul, show (184 : Int32) = nI 184 from rfl, nI_add]
section LD
variable {l : Launch} {d n : Nat} {S0 T : aw_S} {s : LvS} {lp : Nat → Int32}
theorem sp_doesM {P : Int32 → aw_S → Prop} {op x1 x2 r : Nat} (hR : RefsOk S0.2.2) (hr : r < 600) (B : LsB n s) (h : LmR S0 lp T s) (ho : opOk n op x1 x2) (e0 : T.1 115 r = nI op) (e1 : (op = 3 ∨ op = 8 ∨ op = 9) → T.1 115 (r + 1) = nI x1) (e2 : (op = 3 ∨ op = 9) → T.1 115 (r + 2) = nI x2) (k : ∀ v T', (v = 0 ↔ (stQ op x1 x2 s).1 = false) → LmR S0 lp T' (stQ op x1 x2 s).2 → P v T') : Sp l m_Md_does (d + 8) 0 0 [.ref 114, .int (nI r)] sh0 T (gI sh0 P) := by
  have hR' : RefsOk T.2.2 := by rw [h.1.R]; exact hR
  have hv : ∀ j, j < 10 → vp_in (nI (r + j)) 3864 := fun j hj => vp_in_nI (by omega) (by omega)
  refine e_Md_does rfl ⟨115, hR'.at (by decide), 3864, rfl, hv 0 (by omega), ?_⟩
  rw [nI_clamp (by omega), nA1, nA2, nI_clamp (by omega), nI_clamp (by omega), e0]
  rcases ho with ⟨o1, o2, o3⟩ | o1 | ⟨o1, o2⟩ | ⟨o1, o2, o3⟩ | o1
  · subst o1
    rw [e1 (Or.inl rfl), e2 (Or.inl rfl)]
    have es : stQ 3 x1 x2 s = psP s x1 x2 := rfl
    rw [es] at k
    exact ⟨fun q => absurd q (by decide), fun _ => ⟨hv 1 (by omega), hv 2 (by omega), sp_passesBy hR B h o2 o3 (fun v T' z1 z2 z3 => ⟨z1, k v T' z2 z3⟩)⟩, fun q => absurd q (by decide), fun q => absurd q (by decide), fun q => absurd q (by decide), fun q => absurd q (by decide), fun q => absurd q (by decide), fun q => absurd q (by decide), fun q => absurd q (by decide)⟩
  · subst o1
    have es : stQ 7 x1 x2 s = bkP s := rfl
    rw [es] at k
    exact ⟨fun q => absurd q (by decide), fun q => absurd q (by decide), fun q => absurd q (by decide), fun q => absurd q (by decide), fun q => absurd q (by decide), fun _ => sp_backBy hR B h (fun v T' z1 z2 z3 => ⟨z1, k v T' z2 z3⟩), fun q => absurd q (by decide), fun q => absurd q (by decide), fun q => absurd q (by decide)⟩
  · subst o1
    rw [e1 (Or.inr (Or.inl rfl))]
    have es : stQ 8 x1 x2 s = wvQ s x1 := rfl
    rw [es] at k
    exact ⟨fun q => absurd q (by decide), fun q => absurd q (by decide), fun q => absurd q (by decide), fun q => absurd q (by decide), fun q => absurd q (by decide), fun q => absurd q (by decide), fun _ => ⟨hv 1 (by omega), sp_weavesBy hR B h o2 (fun v T' z1 z2 z3 => ⟨z1, k v T' z2 z3⟩)⟩, fun q => absurd q (by decide), fun q => absurd q (by decide)⟩
  · subst o1
    rw [e1 (Or.inr (Or.inr rfl)), e2 (Or.inr rfl)]
    have es : stQ 9 x1 x2 s = ptP s x1 x2 := rfl
    rw [es] at k
    exact ⟨fun q => absurd q (by decide), fun q => absurd q (by decide), fun q => absurd q (by decide), fun q => absurd q (by decide), fun q => absurd q (by decide), fun q => absurd q (by decide), fun q => absurd q (by decide), fun _ => ⟨hv 1 (by omega), hv 2 (by omega), sp_paintsM hR B h o2 o3 (fun v T' z1 z2 z3 => ⟨z1, k v T' z2 z3⟩)⟩, fun q => absurd q (by decide)⟩
  · subst o1
    have es : stQ 10 x1 x2 s = anP s := rfl
    rw [es] at k
    exact ⟨fun q => absurd q (by decide), fun q => absurd q (by decide), fun q => absurd q (by decide), fun q => absurd q (by decide), fun q => absurd q (by decide), fun q => absurd q (by decide), fun q => absurd q (by decide), fun q => absurd q (by decide), fun _ => sp_doesAny hR B h (fun v T' z1 z2 z3 => ⟨z1, k v T' z2 z3⟩)⟩
theorem sp_doesN {P : Int32 → aw_S → Prop} {c r : Nat} (hR : RefsOk T.2.2) (hr : r < 600) (hc : 11 ≤ c) (hc2 : c < 2000) (e0 : T.1 115 r = nI c) (k : P 1 T) : Sp l m_Md_does (d + 1) 0 0 [.ref 114, .int (nI r)] sh0 T (gI sh0 P) := by
  have ne : ∀ j : Nat, j ≤ 10 → ¬ nI c = nI j := fun j hj z => by
    have := (nI_inj (by omega) (by omega)).mp z
    omega
  refine e_Md_does rfl ⟨115, hR.at (by decide), 3864, rfl, vp_in_nI (by omega) (by omega), ?_⟩
  rw [nI_clamp (by omega), e0]
  exact ⟨fun _ => k, fun q => absurd q (ne 3 (by omega)), fun q => absurd q (ne 4 (by omega)), fun q => absurd q (ne 5 (by omega)), fun q => absurd q (ne 6 (by omega)), fun q => absurd q (ne 7 (by omega)), fun q => absurd q (ne 8 (by omega)), fun q => absurd q (ne 9 (by omega)), fun q => absurd q (ne 10 (by omega))⟩
theorem sp_holdsM {P : Int32 → aw_S → Prop} {c x1 x2 x5 r : Nat} {ts fs sd y1 y2 y5 : Int32} (hR : RefsOk S0.2.2) (hr : r < 600) (B : LsB n s) (h : LmR S0 lp T s) (hh : hdR n c x1 x2 x5 ts fs sd y1 y2 y5) (e0 : T.1 115 r = nI c) (e1 : T.1 115 (r + 1) = y1) (e2 : T.1 115 (r + 2) = y2) (e5 : T.1 115 (r + 5) = y5) (k : ∀ v, (v = 0 ↔ hdP c x1 x2 x5 s.g = false) → P v T) : Sp l m_Md_holds (d + 1 + 1 + 1 + 1) 0 0 [.ref 114, .int (nI r)] sh0 T (gI sh0 P) := by
  have hR' : RefsOk T.2.2 := by rw [h.1.R]; exact hR
  have hM := MdS.mk0 hR'
  obtain ⟨b1, b2, b3, b4, b5⟩ := id B
  have hn : s.g.n ≤ 7 := b1.1
  have hm : s.g.m ≤ 40 := b1.2.2.2.2.1
  have hgp := gp_le s.g.n
  have hgn := gp_le n
  have r0 : T.2.2 114 0 = some 115 := hR'.at (by decide)
  have hv : ∀ j, j < 10 → vp_in (nI (r + j)) 3864 := fun j hj => vp_in_nI (by omega) (by omega)
  have m3 : T.1 115 3 = nI s.g.m := h.2.1.2.2.2.1
  refine e_Md_holds rfl ⟨115, r0, 3864, rfl, ?_⟩
  rw [nA1, nA2, nA5, nI_clamp (show r < 2 ^ 31 by omega), nI_clamp (show r + 1 < 2 ^ 31 by omega), nI_clamp (show r + 2 < 2 ^ 31 by omega), nI_clamp (show r + 5 < 2 ^ 31 by omega), show (3 : Int32).toNatClampNeg = 3 from rfl, e0, e1, e2, e5, m3]
  refine ⟨hv 1 (by omega), hv 0 (by omega), ?_⟩
  rcases hh with ⟨c1, -, c3, -, c4⟩ | ⟨c1, -, ⟨c3, c3'⟩, ⟨-, c4⟩, -, c5⟩ | ⟨c1, -, ⟨c3, c3'⟩, ⟨-, c4⟩, -, c5⟩ | ⟨c1, -, ⟨c3, c3'⟩, ⟨-, c4⟩, -, c5⟩
  · subst c1 c4
    obtain ⟨p, hp, es⟩ := std_inv b1 (d := x1) (by omega)
    refine ⟨fun q => absurd q (by decide), fun _ => ?_, fun q => absurd q (by decide), fun q => absurd q (by decide)⟩
    have e := two_b (A := nI p = nI x1) (b := hdP 1115 x1 x2 x5 s.g) (Q := fun v => P v T) (by
      unfold hdP
      rw [if_pos rfl, decide_eq_true_iff]
      exact std_iff b1 hp (by omega) es) k
    have sp := sp_Md_placeOf (l := l) (d := d + 1 + 1) (P := fun x18 S17 => ((¬ x18 = nI x1 → P 0 S17) ∧ (x18 = nI x1 → P 1 S17))) hM b1 h.2.1 hp e
    rw [es] at sp
    exact sp
  · subst c1 c4 c5
    obtain ⟨p, hp, es⟩ := std_inv b1 (d := x1) (by omega)
    refine ⟨fun q => absurd q (by decide), fun q => absurd q (by decide), fun _ => ?_, fun q => absurd q (by decide)⟩
    have e := two_b (A := nI p = nI x2) (b := hdP 1116 x1 x2 x5 s.g) (Q := fun v => P v T) (by
      unfold hdP
      rw [if_neg (by decide), if_pos rfl, decide_eq_true_iff]
      exact std_iff b1 hp (by omega) es) k
    have sp := sp_Md_placeOf (l := l) (d := d + 1 + 1) (P := fun x21 S20 => ∃ r22, S20.2.2 114 0 = some r22 ∧ ∃ n24, sh0[r22]? = some (3, n24) ∧ vp_in (nI (r + 2)) n24 ∧ ((¬ x21 = (S20.1 r22 (r + 2)) → P 0 S20) ∧ (x21 = (S20.1 r22 (r + 2)) → P 1 S20))) hM b1 h.2.1 hp ⟨115, r0, 3864, rfl, hv 2 (by omega), by rw [e2]; exact e⟩
    rw [es] at sp
    exact sp
  · subst c1 c4 c5
    have hsh := sh_le b1 x1
    refine ⟨fun q => absurd q (by decide), fun q => absurd q (by decide), fun q => absurd q (by decide), fun _ => sp_Md_showsOf hM b1 h.2.1 (by omega) ⟨115, r0, 3864, rfl, hv 2 (by omega), ?_⟩⟩
    rw [e2]
    refine two_b ?_ k
    unfold hdP
    rw [if_neg (by decide), if_neg (by decide), if_pos rfl, decide_eq_true_iff]
    exact nI_inj (by omega) (by omega)
  · subst c1 c4 c5
    refine ⟨fun _ => ⟨vp_in_nI (n := 3) (by omega) (by omega), hv 5 (by omega), ?_⟩, fun q => absurd q (by decide), fun q => absurd q (by decide), fun q => absurd q (by decide)⟩
    have ee : hdP 1118 x1 x2 x5 s.g = if x5 = 60 then decide (s.g.m < x2) else if x5 = 62 then decide (x2 < s.g.m) else decide (s.g.m = x2) := by
      unfold hdP
      rw [if_neg (by decide), if_neg (by decide), if_neg (by decide)]
    rw [ee] at k
    rcases c3 with c3 | c3 | c3
    · subst c3
      rw [if_pos rfl] at k
      refine ⟨fun q => absurd rfl q, fun _ => ⟨hv 2 (by omega), two_c ?_ k⟩⟩
      rw [nI_leI (by omega) (by omega), decide_eq_true_iff]
      omega
    · subst c3
      rw [if_neg (by decide), if_neg (by decide)] at k
      refine ⟨fun _ => ⟨hv 5 (by omega), fun _ => ⟨hv 2 (by omega), two_b ?_ k⟩, fun q => absurd q (by decide)⟩, fun q => absurd q (by decide)⟩
      rw [nI_inj (by omega) (by omega), decide_eq_true_iff]
    · subst c3
      rw [if_neg (by decide), if_pos rfl] at k
      refine ⟨fun _ => ⟨hv 5 (by omega), fun q => absurd rfl q, fun _ => ⟨hv 2 (by omega), two_c ?_ k⟩⟩, fun q => absurd q (by decide)⟩
      rw [nI_leI (by omega) (by omega), decide_eq_true_iff]
      omega
end LD
/-- the walk goes on from an entry -/
def HK (l : Launch) (d : Nat) (P : aw_S → Prop) (k : Nat) (T : aw_S) : Prop := AW l m_Md_behindEnds (d + 8) 0 0 (gI sh0 (fun x T' => AW l m_Md_lives (d + 9) 0 0 (gV sh0 P) 0 0 32 [.ref 114, .null, .int x, .null] [] sh0 T')) 0 0 2 [.ref 114, .null, .int (nI k), .null, .null] [] sh0 T
section HKS
variable {l : Launch} {d : Nat} {P : aw_S → Prop}
abbrev G32 (l : Launch) (d : Nat) (P : aw_S → Prop) : aw_G := gI sh0 (fun x T' => AW l m_Md_lives (d + 9) 0 0 (gV sh0 P) 0 0 32 [.ref 114, .null, .int x, .null] [] sh0 T')
theorem HK.go {k : Nat} {T : aw_S} (h : HK l d P k T) : Sp l m_Md_behindEnds (d + 8) 0 0 [.ref 114, .int (nI k)] sh0 T (G32 l d P) := e_Md_behindEnds rfl h
theorem lv_tail {U : aw_S} {k c : Nat} (hR : RefsOk U.2.2) (hk : k < 60) (hc : c < 2000) (e0 : U.1 115 (184 + 6 * k) = nI c)
    (k12 : c = 12 → HK l d P (k + 1) (aw_uI U 140 k (U.1 115 (184 + 6 * k + 1) - 1)))
    (k10 : ¬ c = 12 → c < 1100 → HK l d P (k + 1) U)
    (k11 : 1100 ≤ c → Sp l m_Md_holds (d + 8) 0 0 [.ref 114, .int (nI (184 + 6 * k))] sh0 U (gI sh0 (fun x V => (¬ x = 0 → HK l d P (k + 1) V) ∧ (x = 0 → V.2.2 114 0 = some 115 ∧ ∃ p, V.1 115 (184 + 6 * k + 4) = nI p ∧ HK l d P (p + 1) V)))) :
    vp_in 0 5 ∧ ∃ r17, U.2.2 114 0 = some r17 ∧ ∃ n19, sh0[r17]? = some (3, n19) ∧ vp_in ((184 : Int32) + ((6 : Int32) * nI k)) n19 ∧ ((¬ (U.1 r17 ((184 : Int32) + ((6 : Int32) * nI k) : Int32).toNatClampNeg) = 12 → vp_in ((184 : Int32) + ((6 : Int32) * nI k)) n19 ∧ (((U.1 r17 ((184 : Int32) + ((6 : Int32) * nI k) : Int32).toNatClampNeg) < 1100 → Sp l m_Md_behindEnds (d + 8) 0 0 [.ref 114, .int (nI k + (1 : Int32))] sh0 U (G32 l d P)) ∧ (¬ (U.1 r17 ((184 : Int32) + ((6 : Int32) * nI k) : Int32).toNatClampNeg) < 1100 → Sp l m_Md_holds (d + 8) 0 0 [.ref 114, .int ((184 : Int32) + ((6 : Int32) * nI k))] sh0 U (gI sh0 (fun x27 S26 => ((¬ x27 = 0 → Sp l m_Md_behindEnds (d + 8) 0 0 [.ref 114, .int (nI k + (1 : Int32))] sh0 S26 (G32 l d P)) ∧ (x27 = 0 → ∃ r31, S26.2.2 114 0 = some r31 ∧ ∃ n33, sh0[r31]? = some (3, n33) ∧ vp_in (((184 : Int32) + ((6 : Int32) * nI k)) + (4 : Int32)) n33 ∧ Sp l m_Md_behindEnds (d + 8) 0 0 [.ref 114, .int ((S26.1 r31 (((184 : Int32) + ((6 : Int32) * nI k)) + (4 : Int32) : Int32).toNatClampNeg) + (1 : Int32))] sh0 S26 (G32 l d P)))))))) ∧ ((U.1 r17 ((184 : Int32) + ((6 : Int32) * nI k) : Int32).toNatClampNeg) = 12 → ∃ r37, U.2.2 114 47 = some r37 ∧ vp_in (((184 : Int32) + ((6 : Int32) * nI k)) + (1 : Int32)) n19 ∧ ∃ n40, sh0[r37]? = some (3, n40) ∧ vp_in (nI k) n40 ∧ vp_in ((184 : Int32) + ((6 : Int32) * nI k)) n19 ∧ ((((aw_uI U r37 (nI k).toNatClampNeg ((U.1 r17 (((184 : Int32) + ((6 : Int32) * nI k)) + (1 : Int32) : Int32).toNatClampNeg) - (1 : Int32))).1 r17 ((184 : Int32) + ((6 : Int32) * nI k) : Int32).toNatClampNeg) < 1100 → Sp l m_Md_behindEnds (d + 8) 0 0 [.ref 114, .int (nI k + (1 : Int32))] sh0 (aw_uI U r37 (nI k).toNatClampNeg ((U.1 r17 (((184 : Int32) + ((6 : Int32) * nI k)) + (1 : Int32) : Int32).toNatClampNeg) - (1 : Int32))) (G32 l d P)) ∧ (¬ ((aw_uI U r37 (nI k).toNatClampNeg ((U.1 r17 (((184 : Int32) + ((6 : Int32) * nI k)) + (1 : Int32) : Int32).toNatClampNeg) - (1 : Int32))).1 r17 ((184 : Int32) + ((6 : Int32) * nI k) : Int32).toNatClampNeg) < 1100 → Sp l m_Md_holds (d + 8) 0 0 [.ref 114, .int ((184 : Int32) + ((6 : Int32) * nI k))] sh0 (aw_uI U r37 (nI k).toNatClampNeg ((U.1 r17 (((184 : Int32) + ((6 : Int32) * nI k)) + (1 : Int32) : Int32).toNatClampNeg) - (1 : Int32))) (gI sh0 (fun x47 S46 => ((¬ x47 = 0 → Sp l m_Md_behindEnds (d + 8) 0 0 [.ref 114, .int (nI k + (1 : Int32))] sh0 S46 (G32 l d P)) ∧ (x47 = 0 → ∃ r51, S46.2.2 114 0 = some r51 ∧ ∃ n53, sh0[r51]? = some (3, n53) ∧ vp_in (((184 : Int32) + ((6 : Int32) * nI k)) + (4 : Int32)) n53 ∧ Sp l m_Md_behindEnds (d + 8) 0 0 [.ref 114, .int ((S46.1 r51 (((184 : Int32) + ((6 : Int32) * nI k)) + (4 : Int32) : Int32).toNatClampNeg) + (1 : Int32))] sh0 S46 (G32 l d P))))))))) := by
  have hv : ∀ j, j < 10 → vp_in (nI (184 + 6 * k + j)) 3864 := fun j hj => vp_in_nI (by omega) (by omega)
  refine ⟨vp_in_nI (n := 0) (by omega) (by omega), 115, hR.at (by decide), 3864, rfl, ?_⟩
  rw [n184, nA1 (184 + 6 * k), nA4, nI_1, nI_clamp (show 184 + 6 * k < 2 ^ 31 by omega), nI_clamp (show 184 + 6 * k + 1 < 2 ^ 31 by omega), nI_clamp (show 184 + 6 * k + 4 < 2 ^ 31 by omega), nI_clamp (show k < 2 ^ 31 by omega), e0]
  refine ⟨hv 0 (by omega), fun q => ⟨hv 0 (by omega), fun q2 => (k10 (fun z => q (by rw [z]; rfl)) ((nI_ltI (b := 1100) (by omega) (by omega)).mp q2)).go, fun q2 => ?_⟩, fun q => ⟨140, hR.at (by decide), hv 1 (by omega), 80, rfl, vp_in_nI (by omega) (by omega), hv 0 (by omega), fun _ => ?_, fun q2 => ?_⟩⟩
  · have c1 : 1100 ≤ c := by
      have : ¬ c < 1100 := fun z => q2 (nI_lt (b := 1100) z (by omega))
      omega
    refine Sp.mono (k11 c1) ?_
    rintro _ _ V ⟨q3, x, q4, q5, q6⟩
    refine ⟨q3, x, q4, fun z => (q5 z).go, fun z => ?_⟩
    obtain ⟨z1, p, z2, z3⟩ := q6 z
    refine ⟨115, z1, 3864, rfl, hv 4 (by omega), ?_⟩
    rw [z2, nI_1]
    exact z3.go
  · exact (k12 ((nI_inj (b := 12) (by omega) (by omega)).mp q)).go
  · exfalso
    apply q2
    rw [uI_ne _ _ _ (by omega), e0, q]
    decide
theorem lw_at {T : aw_S} {k c N st : Nat} (hR : RefsOk T.2.2) (hk : k < N) (hN : N ≤ 60) (hc : c < 2000) (h5 : T.1 115 5 = nI N) (h46 : T.1 114 46 = nI st) (hst : st < 300) (e0 : T.1 115 (184 + 6 * k) = nI c) (h14 : ¬ c = 14)
    (kd : Sp l m_Md_does (d + 8) 0 0 [.ref 114, .int (nI (184 + 6 * k))] sh0 (aw_uI T 114 46 (nI (st + 1))) (gI sh0 (fun x V => V.2.2 = T.2.2 ∧ V.1 115 (184 + 6 * k) = nI c ∧ ∀ U, U = aw_uI V 141 0 (T.1 141 0 + (if x = 0 then 1 else 0)) →
      (c = 12 → HK l d P (k + 1) (aw_uI U 140 k (U.1 115 (184 + 6 * k + 1) - 1))) ∧
      (¬ c = 12 → c < 1100 → HK l d P (k + 1) U) ∧
      (1100 ≤ c → Sp l m_Md_holds (d + 8) 0 0 [.ref 114, .int (nI (184 + 6 * k))] sh0 U (gI sh0 (fun x V => (¬ x = 0 → HK l d P (k + 1) V) ∧ (x = 0 → V.2.2 114 0 = some 115 ∧ ∃ p, V.1 115 (184 + 6 * k + 4) = nI p ∧ HK l d P (p + 1) V))))))) :
    AW l m_Md_lives (d + 9) 0 0 (gV sh0 P) 0 0 32 [.ref 114, .null, .int (nI k), .null] [] sh0 T := by
  have hv : vp_in ((184 : Int32) + 6 * nI k) 3864 := by rw [n184]; exact vp_in_nI (by omega) (by omega)
  refine s_Md_lives_32 rfl ⟨115, hR.at (by decide), 3864, rfl, vp_in_nI (n := 5) (by omega) (by omega), fun z => ?_, fun _ => ⟨fun _ => ⟨hv, fun z => ⟨141, hR.at (by decide), 5, rfl, vp_in_nI (n := 0) (by omega) (by omega), ?_⟩, fun z => ?_⟩, fun z => ?_⟩⟩
  · have z : T.1 115 5 ≤ nI k := z
    rw [h5] at z
    exact absurd ((nI_leI (by omega) (by omega)).mp z) (by omega)
  · rw [h46, nI_1, n184]
    refine Sp.mono kd ?_
    rintro _ _ V ⟨q1, x, q2, q3, q4, q5⟩
    have e141 : (aw_uI T 114 46 (nI (st + 1))).1 141 (0 : Int32).toNatClampNeg = T.1 141 0 := by
      rw [uI_ne _ _ _ (by omega)]
      rfl
    refine ⟨q1, x, q2, fun z => ?_, fun z => ?_⟩
    · rw [e141, ← n184]
      obtain ⟨a1, a2, a3⟩ := q5 (aw_uI V 141 0 (T.1 141 0 + 1)) (by rw [if_pos z])
      exact lv_tail (c := c) (by show RefsOk V.2.2; rw [q3]; exact hR) (by omega) hc (by rw [uI_ne _ _ _ (by omega)]; exact q4) a1 a2 a3
    · rw [e141, ← n184]
      obtain ⟨a1, a2, a3⟩ := q5 (aw_uI V 141 0 (T.1 141 0 + 0)) (by rw [if_neg z])
      exact lv_tail (c := c) (by show RefsOk V.2.2; rw [q3]; exact hR) (by omega) hc (by rw [uI_ne _ _ _ (by omega)]; exact q4) a1 a2 a3
  · exfalso
    rw [n184, nI_clamp (by omega), uI_ne _ _ _ (by omega), e0] at z
    exact h14 ((nI_inj (b := 14) (by omega) (by omega)).mp z)
  · exfalso
    rw [h46] at z
    have := (nI_inj (b := 300) (by omega) (by omega)).mp z
    omega
/-- no end stands at k -/
theorem HK.now {T : aw_S} {k c N : Nat} (hR : RefsOk T.2.2) (hk : k < N) (hN : N ≤ 60) (hc : c < 2000) (h5 : T.1 115 5 = nI N) (e0 : T.1 115 (184 + 6 * k) = nI c) (h13 : ¬ c = 13) (h : AW l m_Md_lives (d + 9) 0 0 (gV sh0 P) 0 0 32 [.ref 114, .null, .int (nI k), .null] [] sh0 T) : HK l d P k T := by
  refine s_Md_behindEnds_2 rfl ⟨115, hR.at (by decide), 3864, rfl, vp_in_nI (n := 5) (by omega) (by omega), fun _ => h, fun _ => ?_⟩
  rw [n184, nI_clamp (by omega), e0]
  exact ⟨vp_in_nI (by omega) (by omega), fun _ => h, fun z => absurd ((nI_inj (b := 13) (by omega) (by omega)).mp z) h13⟩
theorem HK.fin {T : aw_S} {N : Nat} (hR : RefsOk T.2.2) (hN : N ≤ 60) (h5 : T.1 115 5 = nI N) (h : P T) : HK l d P N T := by
  have hl : AW l m_Md_lives (d + 9) 0 0 (gV sh0 P) 0 0 32 [.ref 114, .null, .int (nI N), .null] [] sh0 T := by
    refine s_Md_lives_32 rfl ⟨115, hR.at (by decide), 3864, rfl, vp_in_nI (n := 5) (by omega) (by omega), fun _ => h, fun z => absurd ?_ z⟩
    show T.1 115 5 ≤ nI N
    rw [h5]
    exact Int32.le_refl _
  refine s_Md_behindEnds_2 rfl ⟨115, hR.at (by decide), 3864, rfl, vp_in_nI (n := 5) (by omega) (by omega), fun _ => hl, fun z => absurd ?_ z⟩
  show T.1 115 5 ≤ nI N
  rw [h5]
  exact Int32.le_refl _
/-- an end stands at k, its beginning at o -/
theorem HK.close {T : aw_S} {k o c N : Nat} (hR : RefsOk T.2.2) (hk : k < N) (hN : N ≤ 60) (ho : o < k) (hc : c < 2000) (h5 : T.1 115 5 = nI N) (e0 : T.1 115 (184 + 6 * k) = 13) (e4 : T.1 115 (184 + 6 * k + 4) = nI o) (e1 : T.1 115 (184 + 6 * o) = nI c)
    (k0 : ∀ U, U = aw_uI T 140 o (T.1 140 o - 0) → ¬ (c = 12 ∧ 0 < T.1 140 o) → HK l d P (k + 1) U)
    (k1 : ∀ U, U = aw_uI T 140 o (T.1 140 o - 1) → c = 12 → 0 < T.1 140 o → HK l d P (o + 1) U) : HK l d P k T := by
  have hv : ∀ x j, x < 60 → j < 10 → vp_in (nI (184 + 6 * x + j)) 3864 := fun x j hx hj => vp_in_nI (by omega) (by omega)
  have hl : vp_in (nI o) 80 := vp_in_nI (by omega) (by omega)
  refine s_Md_behindEnds_2 rfl ⟨115, hR.at (by decide), 3864, rfl, vp_in_nI (n := 5) (by omega) (by omega), fun z => ?_, fun _ => ?_⟩
  · have z : T.1 115 5 ≤ nI k := z
    rw [h5] at z
    exact absurd ((nI_leI (by omega) (by omega)).mp z) (by omega)
  · rw [n184, nA4, nI_clamp (by omega), nI_clamp (by omega), e0, e4]
    refine ⟨hv k 0 (by omega) (by omega), fun z => absurd rfl z, fun _ => ⟨hv k 4 (by omega) (by omega), fun v hvv => ?_⟩⟩
    subst hvv
    rw [n184, nI_clamp (by omega), nI_clamp (by omega), e1, nI_1, nI_1]
    refine ⟨hv o 0 (by omega) (by omega), fun z => ⟨140, hR.at (by decide), 80, rfl, hl, hl, k0 _ rfl (fun y => z (by rw [y.1]; rfl))⟩, fun z => ⟨140, hR.at (by decide), 80, rfl, hl, fun y => ⟨hl, hl, k0 _ rfl (fun w => absurd w.2 (Int32.not_lt.mpr y))⟩, fun y => ⟨hl, hl, k1 _ rfl ((nI_inj (b := 12) (by omega) (by omega)).mp z) (Int32.not_le.mp y)⟩⟩⟩
end HKS
