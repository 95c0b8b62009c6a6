/-! pass and back -/
/-- a pass: 0 it can't be, 1 it came, 2 it undid; and the green behind it -/
def psG (g : GM) (gap over : Nat) : Nat × GM := match ubG g gap over with
  | some k => (2, rmG g k)
  | none => if g.m < 40 ∧ 0 < lfN g (g.std gap) ∧ 0 < lfN g (g.std (nx g.n gap)) then (1, inG g g.m (npN g gap over)) else (0, g)
theorem ps_2 {g : GM} {gap over k : Nat} (h : ubG g gap over = some k) : psG g gap over = (2, rmG g k) := by
  unfold psG
  rw [h]
theorem ps_1 {g : GM} {gap over : Nat} (h : ubG g gap over = none) (c : canN g gap) : psG g gap over = (1, inG g g.m (npN g gap over)) := by
  unfold psG
  rw [h]
  exact if_pos c
theorem ps_0 {g : GM} {gap over : Nat} (h : ubG g gap over = none) (c : ¬ canN g gap) : psG g gap over = (0, g) := by
  unfold psG
  rw [h]
  exact if_neg c
theorem ps_ok {g : GM} {gap over : Nat} (hb : bdG g) (hr : redN g.n g.f g.m) (hg : gap < gpN g.n) (ho : over < 2) : bdG (psG g gap over).2 ∧ redN (psG g gap over).2.n (psG g gap over).2.f (psG g gap over).2.m ∧ (psG g gap over).2.n = g.n ∧ (psG g gap over).1 < 3 ∧ (psG g gap over).2.col = g.col ∧ (psG g gap over).2.od = g.od := by
  obtain ⟨n1, n2, n3⟩ := np_ok hb hg ho
  cases hu : ubG g gap over with
  | some k =>
    rw [ps_2 hu]
    exact ⟨hb.rem (ub_lt hu).1, red_ub hr hu, rfl, (by decide : (2 : Nat) < 3), rfl, rfl⟩
  | none =>
    by_cases c : g.m < 40 ∧ 0 < lfN g (g.std gap) ∧ 0 < lfN g (g.std (nx g.n gap))
    · rw [ps_1 hu c]
      exact ⟨hb.ins c.1 n1 (Nat.le_refl _), red_add hr hu n2 n3, rfl, (by decide : (1 : Nat) < 3), rfl, rfl⟩
    · rw [ps_0 hu c]
      exact ⟨hb, hr, rfl, (by decide : (0 : Nat) < 3), rfl, rfl⟩
def k1 (k : Nat) : Int32 := if k = 1 then 1 else 0
def k2 (k : Nat) : Int32 := if k = 2 then 1 else 0
def MXd (k j : Nat) : Prop := k = 115 ∧ (j = 3 ∨ j = 4 ∨ (17 ≤ j ∧ j < 184))
section PA
variable {l : Launch} {d : Nat} {sh : aw_SH} {S : aw_S} {a : Nat} {g : GM}
theorem sp_make {P : Int32 → aw_S → Prop} {gap over : Nat} (hS : GrS sh S.2.2 a) (hb : bdG g) (H : GrG S.1 a g) (hg : gap < gpN g.n) (ho : over < 2)
    (h : ∀ r S', FrI (GX a) S S' → GrG S'.1 a (psG g gap over).2 → ((psG g gap over).1 = 0 ↔ r = -1) → S'.1 a 3 = S.1 a 3 + k1 (psG g gap over).1 → S'.1 a 4 = S.1 a 4 + k2 (psG g gap over).1 → P r S') : Sp l m_Gr_makePass (d + 1 + 1 + 1 + 1) 0 0 [.ref a, .int (nI (2 * gap + over))] sh S (gI sh P) := by
  have hm : g.m ≤ 40 := hb.2.2.2.2.1
  have hn : g.n ≤ 7 := hb.1
  have h2 := gp_le g.n
  refine sp_Gr_makePass hS hb H hg ho (fun k S' hu hk F G e3 e4 => ?_) (fun S' hu c F G e3 e4 => ?_) (fun hu c => ?_)
  · rw [ps_2 hu] at h
    have := (hb.2.2.2.2.2.1 k hk).1
    refine h _ S' F G ⟨fun z => absurd z (by decide : ¬ (2 : Nat) = 0), fun z => absurd z (nI_ne_m1 (by omega))⟩ ?_ e4
    rw [e3]
    exact (Int32.add_zero _).symm
  · rw [ps_1 hu c] at h
    refine h 0 S' F G ⟨fun z => absurd z (by decide : ¬ (1 : Nat) = 0), fun z => absurd z (by decide)⟩ e3 ?_
    rw [e4]
    exact (Int32.add_zero _).symm
  · rw [ps_0 hu c] at h
    exact h (-1) S (FrI.refl _ _) H ⟨fun _ => rfl, fun _ => rfl⟩ (Int32.add_zero _).symm (Int32.add_zero _).symm
theorem MdG.d4 {I I' : Nat → Nat → Int32} {g : GM} (H : MdG I 0 g) (hb : bdG g) (h : ∀ j, j ≠ 4 → I' 115 j = I 115 j) : MdG I' 0 g := by
  have hn : g.n ≤ 7 := hb.1
  obtain ⟨y0, y1, y2, y3, y4, y5, y6⟩ := H
  refine ⟨(h _ (by omega)).trans y0, (h _ (by omega)).trans y1, (h _ (by omega)).trans y2, (h _ (by omega)).trans y3, fun k hk => ?_, fun c hc => (h _ (by omega)).trans (y5 c hc), fun p hp => (h _ (by omega)).trans (y6 p hp)⟩
  rw [h _ (by omega), h _ (by omega), h _ (by omega), h _ (by omega)]
  exact y4 k hk
theorem sp_danced {P : Int32 → aw_S → Prop} {gap over : Nat} (hS : MdS sh S.2.2) (hb : bdG g) (hr : redN g.n g.f g.m) (H : MdG S.1 0 g) (hg : gap < gpN g.n) (ho : over < 2)
    (h : ∀ S', FrI MXd S S' → MdG S'.1 0 (psG g gap over).2 → S'.1 115 4 = S.1 115 4 + k1 (psG g gap over).1 + k2 (psG g gap over).1 → P (nI (psG g gap over).1) S') : Sp l m_Md_danced (d + 1 + 1 + 1 + 1) 0 0 [.ref 114, .int (nI gap), .int (nI over)] sh S (gI sh P) := by
  obtain ⟨b1, b2, b3, b4, -, -⟩ := ps_ok hb hr hg ho
  have up : ∀ (g' : GM) S' (v : Int32), bdG g' → FrI (MX 0) S S' → MdG S'.1 0 g' → (∀ T, FrI MXd S T → MdG T.1 0 g' → T.1 115 4 = S.1 115 4 + 1 → P v T) → ∃ r4, S'.2.2 114 0 = some r4 ∧ ∃ n6, sh[r4]? = some (3, n6) ∧ vp_in 4 n6 ∧ vp_in 4 n6 ∧ P v (aw_uI S' r4 ((4 : Int32).toNatClampNeg) (S'.1 r4 (4 : Int32).toNatClampNeg + 1)) := by
    intro g' S' v hb' F G k
    refine ⟨115, by rw [F.R]; exact hS.2.1, 3864, hS.2.2, vp_in_nI (n := 4) (by omega) (by omega), vp_in_nI (n := 4) (by omega) (by omega), k _ ?_ ?_ ?_⟩
    · exact (F.mono (fun c j q => by unfold MX at q; unfold MXd; omega)).uI _ ⟨rfl, Or.inr (Or.inl rfl)⟩
    · refine G.d4 hb' (fun j hj => ?_)
      show (aw_uI S' 115 4 (S'.1 115 4 + 1)).1 115 j = _
      rw [uI_at, if_pos rfl, if_neg hj]
    · show (aw_uI S' 115 4 (S'.1 115 4 + 1)).1 115 4 = _
      rw [uI_at, if_pos rfl, if_pos rfl, F.1 115 4 (by unfold MX; omega)]
  refine e_Md_danced hS.1 (sp_Md_dances (s := 0) hS (by omega) hb H hg ho (fun k S' hu hk F G => ?_) (fun S' hu c F G => ?_) (fun hu c => ?_))
  · rw [ps_2 hu] at h b1
    refine ⟨fun q => absurd q (by decide), fun _ => ?_⟩
    refine up (rmG g k) S' 2 b1 F G (fun T x1 x2 x3 => h T x1 x2 ?_)
    rw [x3]
    show _ = S.1 115 4 + 0 + 1
    rw [Int32.add_zero]
  · rw [ps_1 hu c] at h b1
    refine ⟨fun q => absurd q (by decide), fun _ => ?_⟩
    refine up _ S' 1 b1 F G (fun T x1 x2 x3 => h T x1 x2 ?_)
    rw [x3]
    show _ = S.1 115 4 + 1 + 0
    rw [Int32.add_zero]
  · rw [ps_0 hu c] at h
    refine ⟨fun _ => h S (FrI.refl _ _) H ?_, fun q => absurd (Int32.le_refl 0) q⟩
    show _ = S.1 115 4 + 0 + 0
    rw [Int32.add_zero, Int32.add_zero]
end PA
