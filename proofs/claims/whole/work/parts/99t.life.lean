/-! a life: the steps -/
/-- a green, what was drawn, steps, missed, came, undone, halted, left -/
def LvS : Type := GM × Nat × Nat × Nat × Nat × Nat × Bool × Bool
abbrev LvS.g (s : LvS) : GM := s.1
abbrev LvS.dr (s : LvS) : Nat := s.2.1
abbrev LvS.st (s : LvS) : Nat := s.2.2.1
abbrev LvS.ms (s : LvS) : Nat := s.2.2.2.1
abbrev LvS.ci (s : LvS) : Nat := s.2.2.2.2.1
abbrev LvS.co (s : LvS) : Nat := s.2.2.2.2.2.1
abbrev LvS.hl (s : LvS) : Bool := s.2.2.2.2.2.2.1
abbrev LvS.lf (s : LvS) : Bool := s.2.2.2.2.2.2.2
def dnN (d : Nat) : Nat := (d * 3269 + 11493) % 65536
theorem dn_lt (d : Nat) : dnN d < 65536 := by
  unfold dnN
  omega
def psP (s : LvS) (gap over : Nat) : Bool × LvS := (decide ((psG s.g gap over).1 ≠ 0), ((psG s.g gap over).2, s.dr, s.st, s.ms, s.ci + (if (psG s.g gap over).1 = 1 then 1 else 0), s.co + (if (psG s.g gap over).1 = 2 then 1 else 0), s.hl, s.lf))
def bkP (s : LvS) : Bool × LvS := if s.g.m = 0 then (false, s) else (true, (rmG s.g (s.g.m - 1), s.dr, s.st, s.ms, s.ci, s.co + 1, s.hl, s.lf))
def wvQ (s : LvS) (t : Nat) : Bool × LvS := (decide ((wvT s.g.n t (s.g, 0, 0)).2.1 + (wvT s.g.n t (s.g, 0, 0)).2.2 ≠ 0), ((wvT s.g.n t (s.g, 0, 0)).1, s.dr, s.st, s.ms, s.ci + (wvT s.g.n t (s.g, 0, 0)).2.1, s.co + (wvT s.g.n t (s.g, 0, 0)).2.2, s.hl, s.lf))
def ptP (s : LvS) (d c : Nat) : Bool × LvS := if s.g.col d = c then (false, s) else (true, (colG s.g d c, s.dr, s.st, s.ms, s.ci, s.co, s.hl, s.lf))
def anP (s : LvS) : Bool × LvS := if gpN s.g.n = 0 then (false, s) else psP (s.g, dnN (dnN (dnN s.dr)), s.st, s.ms, s.ci, s.co, s.hl, s.lf) (dnN s.dr / 8 % gpN s.g.n) (if dnN (dnN (dnN s.dr)) / 8 % 16 < s.g.od then 1 - dnN (dnN s.dr) / 8 % 2 else dnN (dnN s.dr) / 8 % 2)
def stQ (op x1 x2 : Nat) (s : LvS) : Bool × LvS := if op = 3 then psP s x1 x2 else if op = 7 then bkP s else if op = 8 then wvQ s x1 else if op = 9 then ptP s x1 x2 else anP s
def msS (r : Bool × LvS) : LvS := (r.2.g, r.2.dr, r.2.st, r.2.ms + (if r.1 = true then 0 else 1), r.2.ci, r.2.co, r.2.hl, r.2.lf)
/-- what a life keeps to -/
def LsB (n : Nat) (s : LvS) : Prop := bdG s.g ∧ redN s.g.n s.g.f s.g.m ∧ s.g.n = n ∧ s.dr < 65536 ∧ s.st ≤ 300
def opOk (n op x1 x2 : Nat) : Prop := (op = 3 ∧ x1 < gpN n ∧ x2 < 2) ∨ op = 7 ∨ (op = 8 ∧ x1 ≤ 9) ∨ (op = 9 ∧ x1 < n ∧ x2 ≤ 5) ∨ op = 10
theorem wvT_B {n : Nat} {g : GM} : ∀ t st, WvB n g st → WvB n g (wvT n t st) := by
  intro t
  induction t with
  | zero => intro st h; exact h
  | succ t ih => intro st h; exact ih _ (wvO_B h)
theorem LsB.ps {n : Nat} {s : LvS} {gap over : Nat} (h : LsB n s) (hg : gap < gpN n) (ho : over < 2) : LsB n (psP s gap over).2 := by
  obtain ⟨h1, h2, h3, h4, h5⟩ := h
  obtain ⟨p1, p2, p3, p4, p5, p6⟩ := ps_ok h1 h2 (by rw [h3]; exact hg) ho
  exact ⟨p1, p2, p3.trans h3, h4, h5⟩
theorem col_bd {g : GM} {d c : Nat} (hb : bdG g) (hc : c ≤ 5) : bdG (colG g d c) := by
  obtain ⟨h1, h2, h3, h4, h5, h6, h7, h8, h9⟩ := hb
  refine ⟨h1, h2, h3, h4, h5, h6, fun e he => ?_, h8, h9⟩
  show upN g.col d c e ≤ 5
  unfold upN
  split
  · exact hc
  · exact h7 e he
theorem LsB.st1 {n op x1 x2 : Nat} {s : LvS} (h : LsB n s) (ho : opOk n op x1 x2) : LsB n (stQ op x1 x2 s).2 := by
  obtain ⟨h1, h2, h3, h4, h5⟩ := id h
  unfold stQ
  rcases ho with ⟨e, a1, a2⟩ | e | ⟨e, a1⟩ | ⟨e, a1, a2⟩ | e
  · rw [if_pos e]; exact h.ps a1 a2
  · rw [if_neg (by omega), if_pos e]
    unfold bkP
    by_cases c : s.g.m = 0
    · rw [if_pos c]; exact h
    · rw [if_neg c]
      refine ⟨h1.rem (by omega), red_rem h2 (fun o q1 q2 => by omega), h3, h4, h5⟩
  · rw [if_neg (by omega), if_neg (by omega), if_pos e]
    have B := wvT_B (n := s.g.n) (g := s.g) x1 (s.g, 0, 0) ⟨h1, h2, rfl, rfl, rfl⟩
    exact ⟨B.1, B.2.1, B.2.2.1.trans h3, h4, h5⟩
  · rw [if_neg (by omega), if_neg (by omega), if_neg (by omega), if_pos e]
    unfold ptP
    by_cases c : s.g.col x1 = x2
    · rw [if_pos c]; exact h
    · rw [if_neg c]
      exact ⟨col_bd h1 a2, h2, h3, h4, h5⟩
  · rw [if_neg (by omega), if_neg (by omega), if_neg (by omega), if_neg (by omega)]
    unfold anP
    by_cases c : gpN s.g.n = 0
    · rw [if_pos c]; exact h
    · rw [if_neg c]
      refine LsB.ps (s := (s.g, dnN (dnN (dnN s.dr)), s.st, s.ms, s.ci, s.co, s.hl, s.lf)) ⟨h1, h2, h3, dn_lt (dnN (dnN s.dr)), h5⟩ ?_ ?_
      · rw [h3]; rw [h3] at c; exact Nat.mod_lt _ (by omega)
      · split <;> omega
theorem LsB.ms1 {n : Nat} {r : Bool × LvS} (h : LsB n r.2) : LsB n (msS r) := h
/-! the class's side -/
def LcX (a k j : Nat) : Prop := GX a k j ∨ k = a + 2 ∨ k = 97
def LcR (a : Nat) (S0 S : aw_S) (s : LvS) : Prop := FrI (LcX a) S0 S ∧ GrG S.1 a s.g ∧ (S.1 a 3 = S0.1 a 3 + nI s.ci ∧ S.1 a 4 = S0.1 a 4 + nI s.co) ∧ S.1 97 5 = nI s.dr ∧ S.1 97 0 = nI s.st ∧ S.1 97 1 = nI s.ms ∧ S.1 97 6 = bI s.hl ∧ S.1 97 2 = bI s.lf
section LC
variable {l : Launch} {d a n : Nat} {S0 S : aw_S} {s : LvS}
theorem sp_count {P : aw_S → Prop} {r : Bool × LvS} {v : Int32} (h : LcR a S0 S r.2) (ha : a = 11 ∨ a = 26) (hv : v = 0 ↔ r.1 = false) (k : ∀ S', LcR a S0 S' (msS r) → P S') : Sp l m_Li_count (d + 1) 0 0 [.ref 97, .int v] sh0 S (gV sh0 P) := by
  obtain ⟨h1, h2, ⟨h3, h4⟩, h5, h6, h7, h8, h9⟩ := h
  refine e_Li_count rfl ⟨fun q => k S ⟨h1, h2, ⟨h3, h4⟩, h5, h6, ?_, h8, h9⟩, fun q => k _ ⟨h1.uI _ (Or.inr (Or.inr rfl)), ?_, ?_, ?_, ?_, ?_, ?_, ?_⟩⟩
  · have : r.1 = true := by
      cases e : r.1 with
      | true => rfl
      | false => exact absurd (hv.mpr e) q
    show S.1 97 1 = nI (r.2.ms + if r.1 = true then 0 else 1)
    rw [if_pos this, h7]
    rfl
  · exact h2.fr (fun c q1 q2 => uI_ne _ _ _ (by omega))
  · rw [uI_ne _ _ _ (by omega)]; exact ⟨h3, h4⟩
  · rw [uI_at, if_pos rfl, if_neg (by omega)]; exact h5
  · rw [uI_at, if_pos rfl, if_neg (by omega)]; exact h6
  · have : r.1 = false := hv.mp q
    rw [uI_at, if_pos rfl, if_pos rfl, h7, nI_1]
    show _ = nI (r.2.ms + if r.1 = true then 0 else 1)
    rw [if_neg (by rw [this]; decide)]
  · rw [uI_at, if_pos rfl, if_neg (by omega)]; exact h8
  · rw [uI_at, if_pos rfl, if_neg (by omega)]; exact h9
/-- a green that changes in passes alone -/
theorem LcR.gx {S' : aw_S} {g' : GM} {ci co : Nat} (h : LcR a S0 S s) (ha : a = 11 ∨ a = 26) (F : FrI (GX a) S S') (G : GrG S'.1 a g') (e3 : S'.1 a 3 = S.1 a 3 + nI ci) (e4 : S'.1 a 4 = S.1 a 4 + nI co) : LcR a S0 S' (g', s.dr, s.st, s.ms, s.ci + ci, s.co + co, s.hl, s.lf) := by
  obtain ⟨h1, h2, ⟨h3, h4⟩, h5, h6, h7, h8, h9⟩ := h
  have k : ∀ j, S'.1 97 j = S.1 97 j := fun j => F.1 97 j (by unfold GX; omega)
  refine ⟨h1.trans (F.mono (fun k j q => Or.inl q)), G, ⟨?_, ?_⟩, (k 5).trans h5, (k 0).trans h6, (k 1).trans h7, (k 6).trans h8, (k 2).trans h9⟩
  · rw [e3, h3, Int32.add_assoc, nI_add]
  · rw [e4, h4, Int32.add_assoc, nI_add]
theorem sp_passC {P : Int32 → aw_S → Prop} {gap over : Nat} (hR : RefsOk S0.2.2) (ha : a = 11 ∨ a = 26) (B : LsB n s) (h : LcR a S0 S s) (hg : gap < gpN n) (ho : over < 2) (k : ∀ v S', (v = -1 ↔ (psP s gap over).1 = false) → LcR a S0 S' (psP s gap over).2 → P v S') : Sp l m_Gr_makePass (d + 1 + 1 + 1 + 1) 0 0 [.ref a, .int (nI (2 * gap + over))] sh0 S (gI sh0 P) := by
  have hS : GrS sh0 S.2.2 a := GrS.mk0 (by rw [h.1.R]; exact hR) (by omega)
  obtain ⟨b1, b2, b3, b4, b5⟩ := B
  refine sp_make hS b1 h.2.1 (by rw [b3]; exact hg) ho (fun r S' F G hr e3 e4 => k r S' ?_ ?_)
  · show r = -1 ↔ decide ((psG s.g gap over).1 ≠ 0) = false
    rw [decide_eq_false_iff_not, ← hr]
    exact ⟨fun z => fun y => y z, fun z => Classical.byContradiction (fun y => z y)⟩
  · rw [k1_n] at e3
    rw [k2_n] at e4
    exact h.gx ha F G e3 e4
theorem pk_draw {d : Nat} (hd : d < 65536) : (nI d * (3269 : Int32) + (11493 : Int32)) - (nI d * (3269 : Int32) + (11493 : Int32)) / (65536 : Int32) * (65536 : Int32) = nI (dnN d) := by
  rw [show (3269 : Int32) = nI 3269 from rfl, show (11493 : Int32) = nI 11493 from rfl, show (65536 : Int32) = nI 65536 from rfl, pk_mul, nI_add, pk_rem (by omega) (by omega) (by omega)]
  rfl
theorem pk_by {d p : Nat} (hd : d < 65536) (hp : 0 < p) (hp2 : p < 100) : (nI d / (8 : Int32)) - (nI d / (8 : Int32)) / nI p * nI p = nI (d / 8 % p) := by
  rw [show (8 : Int32) = nI 8 from rfl, pk_div (by omega) (by omega) (by omega), pk_rem (by omega) hp (by omega)]
theorem sp_drawBy {P : Int32 → aw_S → Prop} {p : Nat} (hp : 0 < p) (hp2 : p < 100) (B : LsB n s) (ha : a = 11 ∨ a = 26) (h : LcR a S0 S s) (k : ∀ S', LcR a S0 S' (s.g, dnN s.dr, s.st, s.ms, s.ci, s.co, s.hl, s.lf) → P (nI (dnN s.dr / 8 % p)) S') : Sp l m_Li_drawBy (d + 1) 0 0 [.ref 97, .int (nI p)] sh0 S (gI sh0 P) := by
  obtain ⟨h1, h2, ⟨h3, h4⟩, h5, h6, h7, h8, h9⟩ := h
  refine e_Li_drawBy rfl ?_
  rw [h5, pk_draw B.2.2.2.1, uI_at, if_pos rfl, if_pos rfl, pk_by (dn_lt _) hp hp2]
  refine ⟨fun q => absurd ((nI_leI (b := 0) (by omega) (by omega)).mp q) (by omega), fun _ => ⟨fun q => absurd ((nI_inj (b := 0) (by omega) (by omega)).mp q) (by omega), k _ ⟨h1.uI _ (Or.inr (Or.inr rfl)), h2.fr (fun c q1 q2 => uI_ne _ _ _ (by omega)), ?_, ?_, ?_, ?_, ?_, ?_⟩⟩⟩
  · rw [uI_ne _ _ _ (by omega)]; exact ⟨h3, h4⟩
  · rw [uI_at, if_pos rfl, if_pos rfl]
  · rw [uI_at, if_pos rfl, if_neg (by omega)]; exact h6
  · rw [uI_at, if_pos rfl, if_neg (by omega)]; exact h7
  · rw [uI_at, if_pos rfl, if_neg (by omega)]; exact h8
  · rw [uI_at, if_pos rfl, if_neg (by omega)]; exact h9
theorem sp_passAny {P : Int32 → aw_S → Prop} (hR : RefsOk S0.2.2) (h3r : S0.2.2 97 3 = some a) (ha : a = 11 ∨ a = 26) (B : LsB n s) (h : LcR a S0 S s) (k : ∀ v S', (v = 0 ↔ (anP s).1 = false) → LcR a S0 S' (anP s).2 → P v S') : Sp l m_Li_passAny (d + 1 + 1 + 1 + 1 + 1) 0 0 [.ref 97] sh0 S (gI sh0 P) := by
  have hS : GrS sh0 S.2.2 a := GrS.mk0 (by rw [h.1.R]; exact hR) (by omega)
  obtain ⟨b1, b2, b3, b4, b5⟩ := id B
  have hn : s.g.n ≤ 7 := b1.1
  have hgp := gp_le s.g.n
  refine e_Li_passAny rfl ⟨a, by rw [h.1.R]; exact h3r, hS.sa, sp_Gr_gaps hS.sa hn h.2.1.1 ⟨fun q => ?_, fun q => k 0 S ?_ ?_⟩⟩
  · have g0 : gpN s.g.n ≠ 0 := fun z => q (by rw [z]; rfl)
    have ea : anP s = psP (s.g, dnN (dnN (dnN s.dr)), s.st, s.ms, s.ci, s.co, s.hl, s.lf) (dnN s.dr / 8 % gpN s.g.n) (if dnN (dnN (dnN s.dr)) / 8 % 16 < s.g.od then 1 - dnN (dnN s.dr) / 8 % 2 else dnN (dnN s.dr) / 8 % 2) := by
      unfold anP
      rw [if_neg g0]
    rw [ea] at k
    refine sp_drawBy (p := gpN s.g.n) (by omega) (by omega) B ha h (fun S1 h1 => ?_)
    refine sp_drawBy (p := 2) (n := n) (s := (s.g, dnN s.dr, s.st, s.ms, s.ci, s.co, s.hl, s.lf)) (by omega) (by omega) ⟨b1, b2, b3, dn_lt s.dr, b5⟩ ha h1 (fun S2 h2 => ?_)
    refine sp_drawBy (p := 16) (n := n) (s := (s.g, dnN (dnN s.dr), s.st, s.ms, s.ci, s.co, s.hl, s.lf)) (by omega) (by omega) ⟨b1, b2, b3, dn_lt (dnN s.dr), b5⟩ ha h2 (fun S3 h3 => ?_)
    refine ⟨a, by rw [h3.1.R]; exact h3r, hS.sa, ?_⟩
    have od : S3.1 a 1 = nI s.g.od := h3.2.1.2.1
    have hod : s.g.od ≤ 16 := b1.2.1
    have hgg : dnN s.dr / 8 % gpN s.g.n < gpN n := by rw [← b3]; exact Nat.mod_lt _ (by omega)
    have B3 : LsB n (s.g, dnN (dnN (dnN s.dr)), s.st, s.ms, s.ci, s.co, s.hl, s.lf) := ⟨b1, b2, b3, dn_lt (dnN (dnN s.dr)), b5⟩
    have fin : ∀ (v : Int32) (U : aw_S) over, ((v = -1 ↔ (psP (s.g, dnN (dnN (dnN s.dr)), s.st, s.ms, s.ci, s.co, s.hl, s.lf) (dnN s.dr / 8 % gpN s.g.n) over).1 = false)) → (∀ w, (w = 0 ↔ (psP (s.g, dnN (dnN (dnN s.dr)), s.st, s.ms, s.ci, s.co, s.hl, s.lf) (dnN s.dr / 8 % gpN s.g.n) over).1 = false) → P w U) → ((v = (-1) → P 0 U) ∧ (¬ v = (-1) → P 1 U)) := fun v U over e kk => ⟨fun z => kk 0 ⟨fun _ => e.mp z, fun _ => rfl⟩, fun z => kk 1 ⟨fun y => absurd y (by decide), fun y => absurd (e.mpr y) z⟩⟩
    rw [od, show (2 : Int32) * nI (dnN s.dr / 8 % gpN s.g.n) = nI (2 * (dnN s.dr / 8 % gpN s.g.n)) by rw [show (2 : Int32) = nI 2 from rfl, pk_mul]]
    refine ⟨fun q => ?_, fun q => ?_⟩
    · have q : nI s.g.od ≤ nI (dnN (dnN (dnN s.dr)) / 8 % 16) := q
      have c : ¬ dnN (dnN (dnN s.dr)) / 8 % 16 < s.g.od := by
        have := (nI_leI (by omega) (by omega)).mp q
        omega
      rw [if_neg c] at k
      rw [nI_add]
      exact sp_passC hR ha B3 h3 hgg (by omega) (fun v U e hU => fin v U _ e (fun w hw => k w U hw hU))
    · have q : ¬ nI s.g.od ≤ nI (dnN (dnN (dnN s.dr)) / 8 % 16) := q
      have c : dnN (dnN (dnN s.dr)) / 8 % 16 < s.g.od := by
        have : ¬ s.g.od ≤ dnN (dnN (dnN s.dr)) / 8 % 16 := fun z => q (nI_le z (by omega))
        omega
      rw [if_pos c] at k
      rw [show (1 : Int32) - nI (dnN (dnN s.dr) / 8 % 2) = nI (1 - dnN (dnN s.dr) / 8 % 2) by rw [show (1 : Int32) = nI 1 from rfl, nI_sub (by omega)], nI_add]
      exact sp_passC hR ha B3 h3 hgg (by omega) (fun v U e hU => fin v U _ e (fun w hw => k w U hw hU))
  · have g0 : gpN s.g.n = 0 := (nI_inj (b := 0) (by omega) (by omega)).mp q
    unfold anP
    rw [if_pos g0]
    exact ⟨fun _ => rfl, fun _ => rfl⟩
  · have g0 : gpN s.g.n = 0 := (nI_inj (b := 0) (by omega) (by omega)).mp q
    unfold anP
    rw [if_pos g0]
    exact h
theorem two_b {A : Prop} {b : Bool} {Q : Int32 → Prop} (e : A ↔ b = true) (k : ∀ v : Int32, (v = 0 ↔ b = false) → Q v) : ((¬ A → Q 0) ∧ (A → Q 1)) := by
  refine ⟨fun z => k 0 ⟨fun _ => ?_, fun _ => rfl⟩, fun z => k 1 ⟨fun y => absurd y (by decide), fun y => ?_⟩⟩
  · cases b with
    | false => rfl
    | true => exact absurd (e.mpr rfl) z
  · have := e.mp z
    rw [y] at this
    exact absurd this (by decide)
theorem two_c {A : Prop} {b : Bool} {Q : Int32 → Prop} (e : ¬ A ↔ b = true) (k : ∀ v : Int32, (v = 0 ↔ b = false) → Q v) : ((A → Q 0) ∧ (¬ A → Q 1)) := by
  refine ⟨fun z => k 0 ⟨fun _ => ?_, fun _ => rfl⟩, fun z => k 1 ⟨fun y => absurd y (by decide), fun y => ?_⟩⟩
  · cases b with
    | false => rfl
    | true => exact absurd z (e.mpr rfl)
  · have := e.mp z
    rw [y] at this
    exact absurd this (by decide)
theorem sp_backC {P : Int32 → aw_S → Prop} (hR : RefsOk S0.2.2) (ha : a = 11 ∨ a = 26) (B : LsB n s) (h : LcR a S0 S s) (k : ∀ v S', (v = 0 ↔ (bkP s).1 = false) → LcR a S0 S' (bkP s).2 → P v S') : Sp l m_Gr_doBack (d + 1 + 1 + 1 + 1) 0 0 [.ref a] sh0 S (gI sh0 P) := by
  have hS : GrS sh0 S.2.2 a := GrS.mk0 (by rw [h.1.R]; exact hR) (by omega)
  refine sp_Gr_doBack hS B.1 h.2.1 (fun S' hm F G e3 e4 => ?_) (fun hm => ?_)
  · have e : bkP s = (true, (rmG s.g (s.g.m - 1), s.dr, s.st, s.ms, s.ci, s.co + 1, s.hl, s.lf)) := by
      unfold bkP
      rw [if_neg (by omega)]
      rfl
    rw [e] at k
    refine k 1 S' ⟨fun z => absurd z (by decide), fun z => absurd (show true = false from z) (by decide)⟩ ?_
    exact h.gx (ci := 0) (co := 1) ha F G (by rw [e3]; exact (Int32.add_zero _).symm) e4
  · have e : bkP s = (false, s) := by
      unfold bkP
      rw [if_pos hm]
    rw [e] at k
    exact k 0 S ⟨fun _ => rfl, fun _ => rfl⟩ h
theorem wvT_up {m : Nat} : ∀ t st, (wvT m t st).2.1 ≤ st.2.1 + 8 * t ∧ (wvT m t st).2.2 ≤ st.2.2 + 8 * t := by
  intro t
  induction t with
  | zero => intro st; exact ⟨Nat.le_refl _, Nat.le_refl _⟩
  | succ t ih =>
    intro st
    have h1 := ih (wvO m st)
    have h2 := wvO_up (n := m) st
    show (wvT m t (wvO m st)).2.1 ≤ _ ∧ (wvT m t (wvO m st)).2.2 ≤ _
    omega
theorem sp_weaveC {P : Int32 → aw_S → Prop} {t : Nat} (hR : RefsOk S0.2.2) (ha : a = 11 ∨ a = 26) (B : LsB n s) (h : LcR a S0 S s) (ht : t ≤ 9) (k : ∀ v S', (¬ v ≤ 0 ↔ (wvQ s t).1 = true) → LcR a S0 S' (wvQ s t).2 → P v S') : Sp l m_Gr_weaveTimes (d + 1 + 1 + 1 + 1 + 1) 0 0 [.ref a, .int (nI t)] sh0 S (gI sh0 P) := by
  have hS : GrS sh0 S.2.2 a := GrS.mk0 (by rw [h.1.R]; exact hR) (by omega)
  refine sp_Gr_weaveTimes (n := s.g.n) (g := s.g) hS B.1.1 ⟨B.1, B.2.1, rfl, rfl, rfl⟩ h.2.1 ht (fun S' C => k _ S' ?_ ?_)
  · have u := wvT_up (m := s.g.n) t (s.g, 0, 0)
    have u1 : (wvT s.g.n t (s.g, 0, 0)).2.1 ≤ 0 + 8 * t := u.1
    have u2 : (wvT s.g.n t (s.g, 0, 0)).2.2 ≤ 0 + 8 * t := u.2
    have q := nI_leI (a := (wvT s.g.n t (s.g, 0, 0)).2.1 + (wvT s.g.n t (s.g, 0, 0)).2.2) (b := 0) (by omega) (by omega)
    have q' : nI ((wvT s.g.n t (s.g, 0, 0)).2.1 + (wvT s.g.n t (s.g, 0, 0)).2.2) ≤ 0 ↔ (wvT s.g.n t (s.g, 0, 0)).2.1 + (wvT s.g.n t (s.g, 0, 0)).2.2 ≤ 0 := q
    rw [q']
    show _ ↔ decide ((wvT s.g.n t (s.g, 0, 0)).2.1 + (wvT s.g.n t (s.g, 0, 0)).2.2 ≠ 0) = true
    rw [decide_eq_true_iff]
    omega
  · exact h.gx ha C.1 C.2.1 C.2.2.1 C.2.2.2
theorem sp_repaintC {P : Int32 → aw_S → Prop} {x1 x2 : Nat} (hR : RefsOk S0.2.2) (h3r : S0.2.2 97 3 = some a) (ha : a = 11 ∨ a = 26) (B : LsB n s) (h : LcR a S0 S s) (h1 : x1 < n) (h2 : x2 ≤ 5) (k : ∀ v S', (v = 0 ↔ (ptP s x1 x2).1 = false) → LcR a S0 S' (ptP s x1 x2).2 → P v S') : Sp l m_Li_repaint (d + 1) 0 0 [.ref 97, .int (nI x1), .int (nI x2)] sh0 S (gI sh0 P) := by
  have hS : GrS sh0 S.2.2 a := GrS.mk0 (by rw [h.1.R]; exact hR) (by omega)
  obtain ⟨b1, b2, b3, b4, b5⟩ := id B
  have hn : s.g.n ≤ 7 := b1.1
  have c5 := b1.2.2.2.2.2.2.1 x1 (by omega)
  refine e_Li_repaint rfl ⟨a, by rw [h.1.R]; exact h3r, hS.sa, a + 2, hS.r6, 7, hS.s2, vp_in_nI (by omega) (by omega), ?_⟩
  rw [nI_clamp (by omega), h.2.1.2.2.2.2.2.1 x1 (by omega)]
  refine ⟨fun q => ⟨vp_in_nI (by omega) (by omega), ?_⟩, fun q => ?_⟩
  · have c : ¬ s.g.col x1 = x2 := fun z => q (by rw [z])
    have e : ptP s x1 x2 = (true, (colG s.g x1 x2, s.dr, s.st, s.ms, s.ci, s.co, s.hl, s.lf)) := by
      unfold ptP
      rw [if_neg c]
      rfl
    rw [e] at k
    obtain ⟨g1, g2, ⟨g3, g4⟩, g5, g6, g7, g8, g9⟩ := h
    refine k 1 _ ⟨fun z => absurd z (by decide), fun z => absurd (show true = false from z) (by decide)⟩ ⟨g1.uI _ (Or.inr (Or.inl rfl)), g2.col, ?_, ?_, ?_, ?_, ?_, ?_⟩
    · rw [uI_ne _ _ _ (by omega)]; exact ⟨g3, g4⟩
    · rw [uI_ne _ _ _ (by omega)]; exact g5
    · rw [uI_ne _ _ _ (by omega)]; exact g6
    · rw [uI_ne _ _ _ (by omega)]; exact g7
    · rw [uI_ne _ _ _ (by omega)]; exact g8
    · rw [uI_ne _ _ _ (by omega)]; exact g9
  · have c : s.g.col x1 = x2 := (nI_inj (by omega) (by omega)).mp q
    have e : ptP s x1 x2 = (false, s) := by
      unfold ptP
      rw [if_pos c]
    rw [e] at k
    exact k 0 S ⟨fun _ => rfl, fun _ => rfl⟩ h
end LC
/-- whether a test holds -/
def hdP (c x1 x2 x5 : Nat) (g : GM) : Bool := if c = 1115 then decide (g.std x1 = x1) else if c = 1116 then decide (g.std x2 = x1) else if c = 1117 then decide (shN g x1 = x2) else if x5 = 60 then decide (g.m < x2) else if x5 = 62 then decide (x2 < g.m) else decide (g.m = x2)
/-- a test, as the class and the reference keep it -/
def hdR (n c x1 x2 x5 : Nat) (ts fs sd y1 y2 y5 : Int32) : Prop := (c = 1115 ∧ ts = 12 ∧ x1 < n ∧ fs = nI x1 ∧ y1 = nI x1) ∨ (c = 1116 ∧ ts = 13 ∧ (x1 < n ∧ x2 < n) ∧ (fs = nI x1 ∧ y1 = nI x1) ∧ (sd = nI x2 ∧ y2 = nI x2)) ∨ (c = 1117 ∧ ts = 14 ∧ (x1 < gpN n ∧ x2 ≤ 6) ∧ (fs = nI x1 ∧ y1 = nI x1) ∧ (sd = nI x2 ∧ y2 = nI x2)) ∨ (c = 1118 ∧ ts = 15 ∧ ((x5 = 60 ∨ x5 = 61 ∨ x5 = 62) ∧ x2 ≤ 40) ∧ (fs = nI x5 ∧ y5 = nI x5) ∧ (sd = nI x2 ∧ y2 = nI x2))
theorem pl_of {I : Nat → Nat → Int32} {a : Nat} {g : GM} (hb : bdG g) (H : GrG I a g) {x : Nat} (hx : x < g.n) : ∃ p, p < g.n ∧ I (a + 3) x = nI p ∧ g.std p = x := by
  obtain ⟨p, hp, e⟩ := std_inv hb hx
  refine ⟨p, hp, ?_, e⟩
  rw [← e]
  exact (H.2.2.2.2.2.2.1 p hp).2
theorem std_iff {g : GM} (hb : bdG g) {p q x : Nat} (hp : p < g.n) (hq : q < g.n) (e : g.std p = x) : nI p = nI q ↔ g.std q = x := by
  have hn : g.n ≤ 7 := hb.1
  rw [nI_inj (by omega) (by omega)]
  exact ⟨fun z => by rw [← z]; exact e, fun z => hb.2.2.2.2.2.2.2.2 p q hp hq (e.trans z.symm)⟩
section LH
variable {l : Launch} {d a n : Nat} {S0 S : aw_S} {s : LvS}
theorem sp_holdsC {P : Int32 → aw_S → Prop} {c x1 x2 x5 : Nat} {ts fs sd y1 y2 y5 : Int32} (hR : RefsOk S0.2.2) (h3r : S0.2.2 97 3 = some a) (ha : a = 11 ∨ a = 26) (B : LsB n s) (h : LcR a S0 S s) (hh : hdR n c x1 x2 x5 ts fs sd y1 y2 y5) (k : ∀ v, (v = 0 ↔ hdP c x1 x2 x5 s.g = false) → P v S) : Sp l m_Li_holds (d + 1 + 1 + 1) 0 0 [.ref 97, .int ts, .int fs, .int sd] sh0 S (gI sh0 P) := by
  have hS : GrS sh0 S.2.2 a := GrS.mk0 (by rw [h.1.R]; exact hR) (by omega)
  have r3 : S.2.2 97 3 = some a := by rw [h.1.R]; exact h3r
  obtain ⟨b1, b2, b3, b4, b5⟩ := id B
  have hn : s.g.n ≤ 7 := b1.1
  have hm : s.g.m ≤ 40 := b1.2.2.2.2.1
  have hgp := gp_le s.g.n
  have hgn := gp_le n
  rcases hh with ⟨c1, c2, c3, c4, -⟩ | ⟨c1, c2, ⟨c3, c3'⟩, ⟨c4, -⟩, c5, -⟩ | ⟨c1, c2, ⟨c3, c3'⟩, ⟨c4, -⟩, c5, -⟩ | ⟨c1, c2, ⟨c3, c3'⟩, ⟨c4, -⟩, c5, -⟩
  · subst c2 c4
    obtain ⟨p, hp, e, es⟩ := pl_of b1 h.2.1 (x := x1) (by omega)
    refine e_Li_holds rfl ⟨fun q => absurd q (by decide), fun _ => ⟨a, r3, hS.sa, a + 3, hS.r7, 7, hS.s3, vp_in_nI (by omega) (by omega), ?_⟩, fun q => absurd q (by decide), fun q => absurd q (by decide)⟩
    rw [nI_clamp (by omega), e]
    refine two_b ?_ k
    unfold hdP
    rw [if_pos c1, decide_eq_true_iff]
    exact std_iff b1 hp (by omega) es
  · subst c2 c4 c5
    obtain ⟨p, hp, e, es⟩ := pl_of b1 h.2.1 (x := x1) (by omega)
    refine e_Li_holds rfl ⟨fun q => absurd q (by decide), fun q => absurd q (by decide), fun _ => ⟨a, r3, hS.sa, a + 3, hS.r7, 7, hS.s3, vp_in_nI (by omega) (by omega), ?_⟩, fun q => absurd q (by decide)⟩
    rw [nI_clamp (by omega), e]
    refine two_b ?_ k
    unfold hdP
    rw [if_neg (by omega), if_pos c1, decide_eq_true_iff]
    exact std_iff b1 hp (by omega) es
  · subst c2 c4 c5
    refine e_Li_holds rfl ⟨fun q => absurd q (by decide), fun q => absurd q (by decide), fun q => absurd q (by decide), fun _ => ⟨a, r3, hS.sa, a + 6, hS.r10, hS.s6, ?_⟩⟩
    rw [h.2.1.2.2.2.1]
    have hsh := sh_le b1 x1
    refine sp_colour hS b1 h.2.1 (by omega) (two_b ?_ k)
    unfold hdP
    rw [if_neg (by omega), if_neg (by omega), if_pos c1, decide_eq_true_iff]
    exact nI_inj (by omega) (by omega)
  · subst c2 c4 c5
    refine e_Li_holds rfl ⟨fun _ => e_Li_compares rfl ?_, fun q => absurd q (by decide), fun q => absurd q (by decide), fun q => absurd q (by decide)⟩
    have ee : hdP c x1 x2 x5 s.g = if x5 = 60 then decide (s.g.m < x2) else if x5 = 62 then decide (x2 < s.g.m) else decide (s.g.m = x2) := by
      unfold hdP
      rw [if_neg (by omega), if_neg (by omega), if_neg (by omega)]
    rw [ee] at k
    have k' : ∀ v : Int32, (v = 0 ∨ v = 1) ∧ (v = 0 ↔ (if x5 = 60 then decide (s.g.m < x2) else if x5 = 62 then decide (x2 < s.g.m) else decide (s.g.m = x2)) = false) → (v = 0 ∨ v = 1) ∧ P v S := fun v hv => ⟨hv.1, k v hv.2⟩
    rcases c3 with c3 | c3 | c3
    · subst c3
      rw [if_pos rfl] at k'
      refine ⟨fun q => absurd rfl q, fun _ => ⟨a, r3, hS.sa, a + 6, hS.r10, hS.s6, ?_⟩⟩
      rw [h.2.1.2.2.2.1]
      exact ⟨fun z => k' 0 ⟨Or.inl rfl, fun _ => by rw [decide_eq_false_iff_not]; have := (nI_leI (by omega) (by omega)).mp z; omega, fun _ => rfl⟩, fun z => k' 1 ⟨Or.inr rfl, fun y => absurd y (by decide), fun y => absurd (nI_le (show x2 ≤ s.g.m by rw [decide_eq_false_iff_not] at y; omega) (by omega)) z⟩⟩
    · subst c3
      rw [if_neg (by decide), if_neg (by decide)] at k'
      refine ⟨fun _ => ⟨fun _ => ⟨a, r3, hS.sa, a + 6, hS.r10, hS.s6, ?_⟩, fun q => absurd q (by decide)⟩, fun q => absurd q (by decide)⟩
      rw [h.2.1.2.2.2.1]
      exact ⟨fun z => k' 0 ⟨Or.inl rfl, fun _ => by rw [decide_eq_false_iff_not]; exact fun y => z (by rw [y]), fun _ => rfl⟩, fun z => k' 1 ⟨Or.inr rfl, fun y => absurd y (by decide), fun y => absurd ((nI_inj (by omega) (by omega)).mp z) (by rw [decide_eq_false_iff_not] at y; exact y)⟩⟩
    · subst c3
      rw [if_neg (by decide), if_pos rfl] at k'
      refine ⟨fun _ => ⟨fun q => absurd rfl q, fun _ => ⟨a, r3, hS.sa, a + 6, hS.r10, hS.s6, ?_⟩⟩, fun q => absurd q (by decide)⟩
      rw [h.2.1.2.2.2.1]
      exact ⟨fun z => k' 0 ⟨Or.inl rfl, fun _ => by rw [decide_eq_false_iff_not]; have := (nI_leI (by omega) (by omega)).mp z; omega, fun _ => rfl⟩, fun z => k' 1 ⟨Or.inr rfl, fun y => absurd y (by decide), fun y => absurd (nI_le (show s.g.m ≤ x2 by rw [decide_eq_false_iff_not] at y; omega) (by omega)) z⟩⟩
end LH
