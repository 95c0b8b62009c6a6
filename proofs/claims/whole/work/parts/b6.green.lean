/-! a green as a text: pure, and by the class -/
/-- a token, the green so far, names, whether odds, long, a pass were told -/
abbrev GpS : Type := TK × GM × (Nat → List Nat) × Bool × Bool × Bool
abbrev GpS.t (s : GpS) : TK := s.1
abbrev GpS.g (s : GpS) : GM := s.2.1
abbrev GpS.nm (s : GpS) : Nat → List Nat := s.2.2.1
abbrev GpS.od (s : GpS) : Bool := s.2.2.2.1
abbrev GpS.ld (s : GpS) : Bool := s.2.2.2.2.1
abbrev GpS.pd (s : GpS) : Bool := s.2.2.2.2.2
/-- whose name it is -/
def nmF (nm : Nat → List Nat) (w : List Nat) : Nat → Nat → Option Nat
  | 0, _ => none
  | j + 1, i => if nm i = w then some i else nmF nm w j (i + 1)
def upW (nm : Nat → List Nat) (n : Nat) (w : List Nat) (i : Nat) : List Nat := if i = n then w else nm i
def okW (w : List Nat) : Prop := w.length ≤ 8 ∧ ∀ c ∈ w, 97 ≤ c ∧ c ≤ 122
section GPP
variable (B : Nat → Nat) (L : Nat)
def gpOdds (s : GpS) : RsT GpS := if s.od = true then .inl (blF 5 s.t) else nuK B L (tkF B L s.t.e) 0 17 fun v t => seK B L t fun t' => .inr (t', odG s.g v, s.nm, true, s.ld, s.pd)
def gpLong (s : GpS) : RsT GpS := if s.ld = true ∨ s.pd = true then .inl (blF 5 s.t) else nuK B L (tkF B L s.t.e) 1 41 fun v t => seK B L t fun t' => .inr (t', lgG s.g v, s.nm, s.od, true, s.pd)
def gpDancer (s : GpS) : RsT GpS := if s.pd = true then .inl (blF 5 s.t) else if s.g.n = 7 then .inl (blF 6 s.t) else if (tkF B L s.t.e).k = 1 ∧ (tkF B L s.t.e).e - (tkF B L s.t.e).b ≤ 8 ∧ rwT B (tkF B L s.t.e) = none then (if nmF s.nm (wdT B (tkF B L s.t.e)) s.g.n 0 = none then rsK B L 3 (tkF B L (tkF B L s.t.e).e) fun t2 => nuK B L t2 0 6 fun c t3 => seK B L t3 fun t4 => .inr (t4, jnG s.g c, upW s.nm s.g.n (wdT B (tkF B L s.t.e)), s.od, s.ld, s.pd) else .inl (blF 3 (tkF B L s.t.e))) else .inl (blF 2 (tkF B L s.t.e))
def gpPass (s : GpS) : RsT GpS := nuK B L (tkF B L s.t.e) 0 (gpN s.g.n) fun gap t2 => if rwT B t2 = some 5 then (if (psG s.g gap 1).1 = 0 then .inl (blF 5 t2) else seK B L (tkF B L t2.e) fun t3 => .inr (t3, (psG s.g gap 1).2, s.nm, s.od, s.ld, true)) else if rwT B t2 = some 6 then (if (psG s.g gap 0).1 = 0 then .inl (blF 5 t2) else seK B L (tkF B L t2.e) fun t3 => .inr (t3, (psG s.g gap 0).2, s.nm, s.od, s.ld, true)) else .inl (blF 2 t2)
def gpart (s : GpS) : RsT GpS := match rwT B s.t with
  | some 0 => gpOdds B L s
  | some 1 => gpLong B L s
  | some 2 => gpDancer B L s
  | some 4 => gpPass B L s
  | _ => .inl (blF 2 s.t)
def gall : Nat → GpS → RsT GpS
  | 0, s => .inr s
  | f + 1, s => if s.t.k = 0 then .inr s else match gpart B L s with
    | .inl f => .inl f
    | .inr s' => gall f s'
end GPP
def GpB (s : GpS) : Prop := bdG s.g ∧ redN s.g.n s.g.f s.g.m ∧ (s.pd = false → s.g.m = 0) ∧ ∀ d, d < s.g.n → okW (s.nm d)
theorem nmF_no {nm : Nat → List Nat} {w : List Nat} : ∀ j i, nmF nm w j i = none → ∀ k, i ≤ k → k < i + j → nm k ≠ w := by
  intro j
  induction j with
  | zero => intro i _ k h1 h2; omega
  | succ j ih =>
    intro i h k h1 h2
    unfold nmF at h
    by_cases c : nm i = w
    · rw [if_pos c] at h
      cases h
    · rw [if_neg c] at h
      by_cases e : k = i
      · rw [e]; exact c
      · exact ih (i + 1) h k (by omega) (by omega)
theorem nmF_lt {nm : Nat → List Nat} {w : List Nat} : ∀ j i k, nmF nm w j i = some k → i ≤ k ∧ k < i + j := by
  intro j
  induction j with
  | zero => intro i k h; cases h
  | succ j ih =>
    intro i k h
    unfold nmF at h
    by_cases c : nm i = w
    · rw [if_pos c] at h
      have e : i = k := Option.some.inj h
      omega
    · rw [if_neg c] at h
      have := ih (i + 1) k h
      omega
/-- cells that the class's reading of a green may change -/
def GcF (b : Nat) (S0 S : aw_S) : Prop := (∀ k j, ¬ (k = 94 ∨ k = 93 ∨ (b ≤ k ∧ k ≤ b + 7)) → S.1 k j = S0.1 k j) ∧ (∀ k j, ¬ (k = 94 ∨ k = b + 1) → S.2.1 k j = S0.2.1 k j) ∧ S.2.2 = S0.2.2
def GcR (b : Nat) (S0 S : aw_S) (B : Nat → Nat) (L : Nat) (s : GpS) : Prop := GcF b S0 S ∧ TcG S B L s.t ∧ GrG S.1 b s.g ∧ (∀ d, d < s.g.n → S.2.1 (b + 1) d = lN (p5 (s.nm d))) ∧ (S.1 93 5 = bI s.od ∧ S.1 93 6 = bI s.ld ∧ S.1 93 7 = bI s.pd)
def OutC (b : Nat) (S0 : aw_S) (B : Nat → Nat) (L : Nat) (x : Int32) (S' : aw_S) (r : RsT GpS) : Prop := match r with
  | .inl f => x = 0 ∧ GcF b S0 S' ∧ FtC S' f
  | .inr s' => x = 1 ∧ GcR b S0 S' B L s'
theorem GcF.u {b : Nat} {S0 S S' : aw_S} (h : GcF b S0 S) (F : FrU S S') : GcF b S0 S' := ⟨fun k j q => (F.1 k j (fun z => q (Or.inl z))).trans (h.1 k j q), fun k j q => (F.2.1 k j (fun z => q (Or.inl z))).trans (h.2.1 k j q), F.2.2.trans h.2.2⟩
theorem GcF.uI {b : Nat} {S0 S : aw_S} (h : GcF b S0 S) {k j : Nat} (v : Int32) (hk : k = 93 ∨ (b ≤ k ∧ k ≤ b + 7)) : GcF b S0 (aw_uI S k j v) := by
  refine ⟨fun c i q => ?_, h.2.1, h.2.2⟩
  rw [uI_ne _ _ _ (by omega)]
  exact h.1 c i q
section GPC
variable {l : Launch} {d b L : Nat} {B : Nat → Nat} {S0 S : aw_S} {s : GpS}
theorem GcR.tok {S' : aw_S} {t' : TK} (h : GcR b S0 S B L s) (hb : b = 11 ∨ b = 26) (F : FrU S S') (T : TcG S' B L t') : GcR b S0 S' B L (t', s.g, s.nm, s.od, s.ld, s.pd) := by
  obtain ⟨h1, h2, h3, h4, h5⟩ := h
  refine ⟨h1.u F, T, h3.fr (fun k q1 q2 => funext fun j => F.1 k j (by omega)), fun d hd => ?_, ?_⟩
  · rw [F.2.1 _ _ (by omega)]; exact h4 d hd
  · rw [F.1 93 5 (by omega), F.1 93 6 (by omega), F.1 93 7 (by omega)]; exact h5
theorem GcR.fl {j : Nat} {v : Int32} {s' : GpS} (h : GcR b S0 S B L s) (hb : b = 11 ∨ b = 26) (e1 : s'.t = s.t) (e2 : s'.g = s.g) (e3 : s'.nm = s.nm) (h5 : (if 5 = j then v else S.1 93 5) = bI s'.od) (h6 : (if 6 = j then v else S.1 93 6) = bI s'.ld) (h7 : (if 7 = j then v else S.1 93 7) = bI s'.pd) : GcR b S0 (aw_uI S 93 j v) B L s' := by
  obtain ⟨h1, h2, h3, h4, -⟩ := h
  refine ⟨h1.uI _ (Or.inl rfl), ?_, ?_, ?_, ?_⟩
  · rw [e1]
    exact h2.fr (uI_ne _ _ _ (by omega)) (uI_ne _ _ _ (by omega)) rfl rfl rfl
  · rw [e2]
    exact h3.fr (fun k q1 q2 => uI_ne _ _ _ (by omega))
  · rw [e2, e3]; exact h4
  · rw [uI_at, if_pos rfl, uI_at, if_pos rfl, uI_at, if_pos rfl]
    exact ⟨h5, h6, h7⟩
theorem sp_named {P : Int32 → aw_S → Prop} {n : Nat} {nm : Nat → List Nat} {w : List Nat} (hS : GrS sh0 S.2.2 b) (hn : n ≤ 7) (h0 : S.1 b 0 = nI n) (hnm : ∀ d, d < n → S.2.1 (b + 1) d = lN (p5 (nm d)) ∧ okW (nm d)) (hw : okW w) (k : P (oI (nmF nm w n 0)) S) : Sp l m_Gr_named (d + 1) 0 0 [.ref b, .long (lN (p5 w))] sh0 S (gI sh0 P) := by
  have key : ∀ j i, i + j = n → P (oI (nmF nm w j i)) S → AW l m_Gr_named (d + 1) 0 0 (gI sh0 P) 0 0 2 [.ref b, .long (lN (p5 w)), .null, .int (nI i)] [] sh0 S := by
    intro j
    induction j with
    | zero =>
      intro i hi hp
      refine s_Gr_named_2 hS.sa ⟨fun _ => hp, fun z => absurd ?_ z⟩
      rw [h0]
      exact nI_le (by omega) (by omega)
    | succ j ih =>
      intro i hi hp
      obtain ⟨e, o1, o2⟩ := hnm i (by omega)
      refine s_Gr_named_2 hS.sa ⟨fun z => ?_, fun _ => ⟨b + 1, hS.r5, 7, hS.s1, vp_in_nI (by omega) (by omega), ?_⟩⟩
      · rw [h0] at z
        exact absurd ((nI_leI (by omega) (by omega)).mp z) (by omega)
      · rw [nI_clamp (by omega), nI_1, e, lg_eqv]
        have a1 := p5_40 o1 o2
        have a2 := p5_40 hw.1 hw.2
        have eq : lN (p5 (nm i)) = lN (p5 w) ↔ nm i = w := by
          rw [pk_lEQ (by omega) (by omega)]
          exact ⟨fun z => p5_inj _ _ o2 hw.2 z, fun z => by rw [z]⟩
        unfold nmF at hp
        refine ⟨fun z => ih (i + 1) (by omega) ?_, fun z => ?_⟩
        · rw [if_neg (fun y => z (eq.mpr y))] at hp
          exact hp
        · rw [if_pos (eq.mp z)] at hp
          exact hp
  exact e_Gr_named hS.sa (key n 0 (by omega) k)
theorem nm_none {n : Nat} {nm : Nat → List Nat} {w : List Nat} (hn : n ≤ 7) : oI (nmF nm w n 0) = -1 ↔ nmF nm w n 0 = none := by
  cases e : nmF nm w n 0 with
  | none => exact ⟨fun _ => rfl, fun _ => rfl⟩
  | some i =>
    have := nmF_lt n 0 i e
    exact ⟨fun z => absurd z (nI_ne_m1 (by omega)), fun z => by cases z⟩
theorem sp_takeOdds {P : Int32 → aw_S → Prop} (hR : RefsOk S0.2.2) (r3 : S0.2.2 93 3 = some b) (hb : b = 11 ∨ b = 26) (h : GcR b S0 S B L s) (k : ∀ x S', (x = 0 ∨ x = 1) → OutC b S0 B L x S' (gpOdds B L s) → P x S') : Sp l m_Re_takeOdds (d + 5) 0 0 [.ref 93] sh0 S (gI sh0 P) := by
  have rr : ∀ {U : aw_S}, U.2.2 = S0.2.2 → U.2.2 93 2 = some 94 := fun e => by rw [e]; exact hR.at (by decide)
  have r3' : ∀ {U : aw_S}, U.2.2 = S0.2.2 → U.2.2 93 3 = some b := fun e => by rw [e]; exact r3
  have hS : GrS sh0 S0.2.2 b := GrS.mk0 hR (by omega)
  obtain ⟨h1, h2, h3, h4, h5, h6, h7⟩ := id h
  unfold gpOdds at k
  refine e_Re_takeOdds rfl ⟨fun z => ⟨94, rr h1.2.2, rfl, ?_⟩, fun z => ⟨94, rr h1.2.2, rfl, sp_blame (k0 := 5) h2 (fun S' F T => ⟨Or.inl rfl, k 0 S' (Or.inl rfl) ?_⟩)⟩⟩
  · rw [h5] at z
    rw [if_neg (fun y => by rw [y] at z; exact absurd z (by decide))] at k
    have g1 : GcR b S0 (aw_uI S 93 5 1) B L (s.t, s.g, s.nm, true, s.ld, s.pd) := h.fl hb rfl rfl rfl rfl h6 h7
    refine sp_advC g1.2.1 (fun S2 F2 T2 => ⟨94, rr (F2.2.2.trans h1.2.2), rfl, ?_⟩)
    have g2 := g1.tok hb F2 T2
    refine sp_takeNumber (lo := 0) (hi := 17) (α := GpS) (by decide) (by omega) (by omega) T2 (fun f hf S3 F3 T3 => ⟨fun y => absurd rfl y, fun _ => k 0 S3 (Or.inl rfl) ?_⟩) (fun v v1 v2 hv S3 F3 T3 => ⟨fun _ => ?_, fun y => absurd y (nI_ne_m1 (by omega))⟩)
    · rw [hf]
      exact ⟨rfl, g2.1.u F3, T3⟩
    · rw [hv] at k
      have g3 := g2.tok hb F3 T3
      have e3 : S3.2.2 = S0.2.2 := g3.1.2.2
      refine ⟨b, r3' e3, hS.sa, 94, rr e3, rfl, ?_⟩
      have hb8 : b ≠ 94 ∧ b ≠ 10 := by omega
      have g4 : GcR b S0 (aw_uI S3 b 1 (nI v)) B L (tkF B L (tkF B L s.t.e).e, odG s.g v, s.nm, true, s.ld, s.pd) := by
        obtain ⟨a1, a2, a3, a4, a5⟩ := g3
        obtain ⟨q0, q1, q2, q3, q4, q5, q6, q7⟩ := a3
        refine ⟨a1.uI _ (Or.inr ⟨by omega, by omega⟩), a2.fr (uI_ne _ _ _ (by omega)) (uI_ne _ _ _ (by omega)) rfl rfl rfl, ⟨?_, ?_, ?_, ?_, ?_, ?_, ?_, ?_⟩, a4, ?_⟩
        · rw [uI_at, if_pos rfl, if_neg (by omega)]; exact q0
        · rw [uI_at, if_pos rfl, if_pos rfl]; rfl
        · rw [uI_at, if_pos rfl, if_neg (by omega)]; exact q2
        · rw [uI_ne _ _ _ (by omega)]; exact q3
        · rw [uI_ne _ _ _ (by omega)]; exact q4
        · rw [uI_ne _ _ _ (by omega)]; exact q5
        · rw [uI_ne _ _ _ (by omega), uI_ne _ _ _ (by omega)]; exact q6
        · rw [uI_ne _ _ _ (by omega)]; exact q7
        · rw [uI_ne _ _ _ (by omega)]; exact a5
      refine sp_semi (α := GpS) g4.2.1 (fun f hf S5 F5 T5 => ⟨Or.inl rfl, k 0 S5 (Or.inl rfl) ?_⟩) (fun hf S5 F5 T5 => ⟨Or.inr rfl, k 1 S5 (Or.inr rfl) ?_⟩)
      · rw [hf]
        exact ⟨rfl, g4.1.u F5, T5⟩
      · rw [hf]
        exact ⟨rfl, g4.tok hb F5 T5⟩
  · rw [h5] at z
    rw [if_pos ((bI_1 _).mp z)]
    exact ⟨rfl, h1.u F, T⟩
theorem sp_takeLong {P : Int32 → aw_S → Prop} (hR : RefsOk S0.2.2) (r3 : S0.2.2 93 3 = some b) (hb : b = 11 ∨ b = 26) (h : GcR b S0 S B L s) (k : ∀ x S', (x = 0 ∨ x = 1) → OutC b S0 B L x S' (gpLong B L s) → P x S') : Sp l m_Re_takeLong (d + 5) 0 0 [.ref 93] sh0 S (gI sh0 P) := by
  have rr : ∀ {U : aw_S}, U.2.2 = S0.2.2 → U.2.2 93 2 = some 94 := fun e => by rw [e]; exact hR.at (by decide)
  have r3' : ∀ {U : aw_S}, U.2.2 = S0.2.2 → U.2.2 93 3 = some b := fun e => by rw [e]; exact r3
  have hS : GrS sh0 S0.2.2 b := GrS.mk0 hR (by omega)
  obtain ⟨h1, h2, h3, h4, h5, h6, h7⟩ := id h
  unfold gpLong at k
  refine e_Re_takeLong rfl ⟨fun z => ⟨94, rr h1.2.2, rfl, sp_blame (k0 := 5) h2 (fun S' F T => ⟨Or.inl rfl, k 0 S' (Or.inl rfl) ?_⟩)⟩, fun z => ⟨fun z2 => ⟨94, rr h1.2.2, rfl, ?_⟩, fun z2 => ⟨94, rr h1.2.2, rfl, sp_blame (k0 := 5) h2 (fun S' F T => ⟨Or.inl rfl, k 0 S' (Or.inl rfl) ?_⟩)⟩⟩⟩
  · rw [h6] at z
    rw [if_pos (Or.inl ((bI_1 _).mp z))]
    exact ⟨rfl, h1.u F, T⟩
  · rw [h6] at z
    rw [h7] at z2
    have f1 := (bI_0 _).mp z
    have f2 := (bI_0 _).mp z2
    rw [if_neg (fun y => y.elim (fun y => by rw [f1] at y; exact absurd y (by decide)) (fun y => by rw [f2] at y; exact absurd y (by decide)))] at k
    have g1 : GcR b S0 (aw_uI S 93 6 1) B L (s.t, s.g, s.nm, s.od, true, s.pd) := h.fl hb rfl rfl rfl h5 rfl h7
    refine sp_advC g1.2.1 (fun S2 F2 T2 => ⟨94, rr (F2.2.2.trans h1.2.2), rfl, ?_⟩)
    have g2 := g1.tok hb F2 T2
    refine sp_takeNumber (lo := 1) (hi := 41) (α := GpS) (by decide) (by omega) (by omega) T2 (fun f hf S3 F3 T3 => ⟨fun y => absurd rfl y, fun _ => k 0 S3 (Or.inl rfl) ?_⟩) (fun v v1 v2 hv S3 F3 T3 => ⟨fun _ => ?_, fun y => absurd y (nI_ne_m1 (by omega))⟩)
    · rw [hf]
      exact ⟨rfl, g2.1.u F3, T3⟩
    · rw [hv] at k
      have g3 := g2.tok hb F3 T3
      have e3 : S3.2.2 = S0.2.2 := g3.1.2.2
      refine ⟨b, r3' e3, hS.sa, 94, rr e3, rfl, ?_⟩
      have g4 : GcR b S0 (aw_uI S3 b 2 (nI v)) B L (tkF B L (tkF B L s.t.e).e, lgG s.g v, s.nm, s.od, true, s.pd) := by
        obtain ⟨a1, a2, a3, a4, a5⟩ := g3
        obtain ⟨q0, q1, q2, q3, q4, q5, q6, q7⟩ := a3
        refine ⟨a1.uI _ (Or.inr ⟨by omega, by omega⟩), a2.fr (uI_ne _ _ _ (by omega)) (uI_ne _ _ _ (by omega)) rfl rfl rfl, ⟨?_, ?_, ?_, ?_, ?_, ?_, ?_, ?_⟩, a4, ?_⟩
        · rw [uI_at, if_pos rfl, if_neg (by omega)]; exact q0
        · rw [uI_at, if_pos rfl, if_neg (by omega)]; exact q1
        · rw [uI_at, if_pos rfl, if_pos rfl]; rfl
        · rw [uI_ne _ _ _ (by omega)]; exact q3
        · rw [uI_ne _ _ _ (by omega)]; exact q4
        · rw [uI_ne _ _ _ (by omega)]; exact q5
        · rw [uI_ne _ _ _ (by omega), uI_ne _ _ _ (by omega)]; exact q6
        · rw [uI_ne _ _ _ (by omega)]; exact q7
        · rw [uI_ne _ _ _ (by omega)]; exact a5
      refine sp_semi (α := GpS) g4.2.1 (fun f hf S5 F5 T5 => ⟨Or.inl rfl, k 0 S5 (Or.inl rfl) ?_⟩) (fun hf S5 F5 T5 => ⟨Or.inr rfl, k 1 S5 (Or.inr rfl) ?_⟩)
      · rw [hf]
        exact ⟨rfl, g4.1.u F5, T5⟩
      · rw [hf]
        exact ⟨rfl, g4.tok hb F5 T5⟩
  · rw [h7] at z2
    rw [if_pos (Or.inr ((bI_1 _).mp z2))]
    exact ⟨rfl, h1.u F, T⟩
theorem sp_takeDancer {P : Int32 → aw_S → Prop} (hR : RefsOk S0.2.2) (r3 : S0.2.2 93 3 = some b) (hb : b = 11 ∨ b = 26) (hB : GpB s) (h : GcR b S0 S B L s) (k : ∀ x S', (x = 0 ∨ x = 1) → OutC b S0 B L x S' (gpDancer B L s) → P x S') : Sp l m_Re_takeDancer (d + 5) 0 0 [.ref 93] sh0 S (gI sh0 P) := by
  have rr : ∀ {U : aw_S}, U.2.2 = S0.2.2 → U.2.2 93 2 = some 94 := fun e => by rw [e]; exact hR.at (by decide)
  have r3' : ∀ {U : aw_S}, U.2.2 = S0.2.2 → U.2.2 93 3 = some b := fun e => by rw [e]; exact r3
  have hS' : ∀ {U : aw_S}, U.2.2 = S0.2.2 → GrS sh0 U.2.2 b := fun e => by rw [e]; exact GrS.mk0 hR (by omega)
  have hS : GrS sh0 S0.2.2 b := GrS.mk0 hR (by omega)
  obtain ⟨h1, h2, h3, h4, h5, h6, h7⟩ := id h
  obtain ⟨b1, b2, b3, b4⟩ := id hB
  have hn : s.g.n ≤ 7 := b1.1
  unfold gpDancer at k
  refine e_Re_takeDancer rfl ⟨fun z => ⟨b, r3' h1.2.2, hS.sa, ?_⟩, fun z => ⟨94, rr h1.2.2, rfl, sp_blame (k0 := 5) h2 (fun S' F T => ⟨Or.inl rfl, k 0 S' (Or.inl rfl) ?_⟩)⟩⟩
  · rw [h7] at z
    have f1 := (bI_0 _).mp z
    rw [if_neg (by rw [f1]; decide)] at k
    rw [h3.1]
    refine ⟨fun z2 => ⟨94, rr h1.2.2, rfl, sp_advC h2 (fun S2 F2 T2 => ⟨94, rr (F2.2.2.trans h1.2.2), rfl, ?_⟩)⟩, fun z2 => ⟨94, rr h1.2.2, rfl, sp_blame (k0 := 6) h2 (fun S' F T => ⟨Or.inl rfl, k 0 S' (Or.inl rfl) ?_⟩)⟩⟩
    · have n7 : s.g.n < 7 := (nI_ltI (b := 7) (by omega) (by omega)).mp z2
      rw [if_neg (by omega)] at k
      have g2 := h.tok hb F2 T2
      have e2 : S2.2.2 = S0.2.2 := g2.1.2.2
      refine sp_isName T2 (fun q => ⟨fun _ => ⟨94, rr e2, rfl, b, r3' e2, hS.sa, ?_⟩, fun y => absurd y (by decide)⟩) (fun q => ⟨fun y => absurd rfl y, fun _ => ⟨94, rr e2, rfl, sp_blame (k0 := 2) T2 (fun S' F T => ⟨Or.inl rfl, k 0 S' (Or.inl rfl) ?_⟩)⟩⟩)
      · have q' : (tkF B L s.t.e).k = 1 ∧ (tkF B L s.t.e).e - (tkF B L s.t.e).b ≤ 8 ∧ rwT B (tkF B L s.t.e) = none := q
        rw [if_pos q'] at k
        obtain ⟨q1, q2, q3⟩ := id q
        obtain ⟨-, c2, w2, -⟩ := id T2
        have ew := c2.2.2.2.1 q1
        rw [if_pos q2] at ew
        have ew : S2.2.1 94 3 = lN (p5 (wdT B (tkF B L s.t.e))) := ew
        have ow : okW (wdT B (tkF B L s.t.e)) := ⟨by unfold wdT; rw [wdL_len]; exact q2, wdT_in w2 q1⟩
        rw [ew]
        refine sp_named (hS' e2) hn g2.2.2.1.1 (fun d hd => ⟨g2.2.2.2.1 d hd, b4 d hd⟩) ow ⟨fun y => ⟨94, rr e2, rfl, sp_advC T2 (fun S3 F3 T3 => ⟨94, rr (F3.2.2.trans e2), rfl, ?_⟩)⟩, fun y => ⟨94, rr e2, rfl, sp_blame (k0 := 3) T2 (fun S' F T => ⟨Or.inl rfl, k 0 S' (Or.inl rfl) ?_⟩)⟩⟩
        · rw [if_pos ((nm_none hn).mp y)] at k
          have g3 := g2.tok hb F3 T3
          refine sp_takeReserved (w0 := 3) (α := GpS) (by omega) T3 (fun f hf S4 F4 T4 => ⟨fun y => absurd rfl y, fun _ => k 0 S4 (Or.inl rfl) ?_⟩) (fun hf S4 F4 T4 => ⟨fun _ => ⟨94, rr (F4.2.2.trans g3.1.2.2), rfl, ?_⟩, fun y => absurd y (by decide)⟩)
          · rw [hf]
            exact ⟨rfl, g3.1.u F4, T4⟩
          · rw [hf] at k
            have g4 := g3.tok hb F4 T4
            refine sp_takeNumber (lo := 0) (hi := 6) (α := GpS) (by decide) (by omega) (by omega) T4 (fun f hf S5 F5 T5 => ⟨fun y => absurd rfl y, fun _ => k 0 S5 (Or.inl rfl) ?_⟩) (fun v v1 v2 hv S5 F5 T5 => ⟨fun _ => ?_, fun y => absurd y (nI_ne_m1 (by omega))⟩)
            · rw [hf]
              exact ⟨rfl, g4.1.u F5, T5⟩
            · rw [hv] at k
              have g5 := g4.tok hb F5 T5
              have e5 : S5.2.2 = S0.2.2 := g5.1.2.2
              refine ⟨b, r3' e5, hS.sa, sp_Gr_join (hS' e5) n7 g5.2.2.1.1 ⟨94, rr e5, rfl, ?_⟩⟩
              have o : ∀ k, ¬ (b ≤ k ∧ k ≤ b + 5) → (jnS S5 b s.g.n (lN (p5 (wdT B (tkF B L s.t.e)))) (nI v)).1 k = S5.1 k := fun k hk => by
                unfold jnS
                rw [uI_ne _ _ _ (by omega), uI_ne _ _ _ (by omega), uI_ne _ _ _ (by omega), uI_ne _ _ _ (by omega), uI_ne _ _ _ (by omega)]
                rfl
              have oL : (jnS S5 b s.g.n (lN (p5 (wdT B (tkF B L s.t.e)))) (nI v)).2.1 = (aw_uL S5 (b + 1) s.g.n (lN (p5 (wdT B (tkF B L s.t.e))))).2.1 := rfl
              have g6 : GcR b S0 (jnS S5 b s.g.n (lN (p5 (wdT B (tkF B L s.t.e)))) (nI v)) B L (tkF B L (tkF B L (tkF B L (tkF B L s.t.e).e).e).e, jnG s.g v, upW s.nm s.g.n (wdT B (tkF B L s.t.e)), s.od, s.ld, s.pd) := by
                obtain ⟨a1, a2, a3, a4, a5⟩ := g5
                refine ⟨⟨fun k j q => ?_, fun k j q => ?_, a1.2.2⟩, a2.fr (o _ (by omega)) (o _ (by omega)) ?_ ?_ rfl, GrG.jn b1 a3, fun d hd => ?_, ?_⟩
                · rw [o k (by omega)]; exact a1.1 k j q
                · rw [oL, uL_ne _ _ _ (by omega)]; exact a1.2.1 k j q
                · rw [oL, uL_ne _ _ _ (by omega)]
                · rw [oL, uL_ne _ _ _ (by omega)]
                · rw [oL, uL_at, if_pos rfl]
                  have hd : d < s.g.n + 1 := hd
                  show _ = lN (p5 (upW s.nm s.g.n (wdT B (tkF B L s.t.e)) d))
                  unfold upW
                  by_cases e : d = s.g.n
                  · rw [if_pos e, if_pos e]
                  · rw [if_neg e, if_neg e]
                    exact a4 d (show d < s.g.n by omega)
                · rw [o 93 (by omega)]; exact a5
              refine sp_semi (α := GpS) g6.2.1 (fun f hf S7 F7 T7 => ⟨Or.inl rfl, k 0 S7 (Or.inl rfl) ?_⟩) (fun hf S7 F7 T7 => ⟨Or.inr rfl, k 1 S7 (Or.inr rfl) ?_⟩)
              · rw [hf]
                exact ⟨rfl, g6.1.u F7, T7⟩
              · rw [hf]
                exact ⟨rfl, g6.tok hb F7 T7⟩
        · rw [if_neg (fun z => y ((nm_none hn).mpr z))]
          exact ⟨rfl, g2.1.u F, T⟩
      · have q : ¬ ((tkF B L s.t.e).k = 1 ∧ (tkF B L s.t.e).e - (tkF B L s.t.e).b ≤ 8 ∧ rwT B (tkF B L s.t.e) = none) := q
        rw [if_neg q]
        exact ⟨rfl, g2.1.u F, T⟩
    · have n7 : s.g.n = 7 := by
        have : ¬ s.g.n < 7 := fun y => z2 (nI_lt (b := 7) y (by omega))
        omega
      rw [if_pos n7]
      exact ⟨rfl, h1.u F, T⟩
  · rw [h7] at z
    rw [if_pos ((bI_1 _).mp z)]
    exact ⟨rfl, h1.u F, T⟩
theorem sp_howOver {P : Int32 → aw_S → Prop} {t : TK} (r2 : S.2.2 93 2 = some 94) (h : TcG S B L t) (k1 : rwT B t = some 5 → P 1 S) (k0 : ¬ rwT B t = some 5 → rwT B t = some 6 → P 0 S) (kn : ¬ rwT B t = some 5 → ¬ rwT B t = some 6 → P (-1) S) : Sp l m_Re_howOver (d + 1 + 1) 0 0 [.ref 93] sh0 S (gI sh0 P) := by
  obtain ⟨-, c, w, -, -, r⟩ := id h
  have e5 := oI_rw (B := B) (t := t) (w := 5) (by omega)
  have e6 := oI_rw (B := B) (t := t) (w := 6) (by omega)
  refine e_Re_howOver rfl ⟨94, r2, rfl, sp_reserved r w c ⟨fun z => ⟨fun z2 => kn (fun y => z (e5.mpr y)) (fun y => z2 (e6.mpr y)), fun z2 => k0 (fun y => z (e5.mpr y)) (e6.mp z2)⟩, fun z => k1 (e5.mp z)⟩⟩
theorem sp_takeTextPass {P : Int32 → aw_S → Prop} (hR : RefsOk S0.2.2) (r3 : S0.2.2 93 3 = some b) (hb : b = 11 ∨ b = 26) (hB : GpB s) (h : GcR b S0 S B L s) (k : ∀ x S', (x = 0 ∨ x = 1) → OutC b S0 B L x S' (gpPass B L s) → P x S') : Sp l m_Re_takeTextPass (d + 5) 0 0 [.ref 93] sh0 S (gI sh0 P) := by
  have rr : ∀ {U : aw_S}, U.2.2 = S0.2.2 → U.2.2 93 2 = some 94 := fun e => by rw [e]; exact hR.at (by decide)
  have r3' : ∀ {U : aw_S}, U.2.2 = S0.2.2 → U.2.2 93 3 = some b := fun e => by rw [e]; exact r3
  have hS' : ∀ {U : aw_S}, U.2.2 = S0.2.2 → GrS sh0 U.2.2 b := fun e => by rw [e]; exact GrS.mk0 hR (by omega)
  have hS : GrS sh0 S0.2.2 b := GrS.mk0 hR (by omega)
  obtain ⟨h1, h2, h3, h4, h5, h6, h7⟩ := id h
  obtain ⟨b1, b2, b3, b4⟩ := id hB
  have hn : s.g.n ≤ 7 := b1.1
  have hgp := gp_le s.g.n
  unfold gpPass at k
  have g1 : GcR b S0 (aw_uI S 93 7 1) B L (s.t, s.g, s.nm, s.od, s.ld, true) := h.fl hb rfl rfl rfl h5 h6 rfl
  refine e_Re_takeTextPass rfl ⟨94, rr h1.2.2, rfl, sp_advC g1.2.1 (fun S2 F2 T2 => ?_)⟩
  have g2 := g1.tok hb F2 T2
  have e2 : S2.2.2 = S0.2.2 := g2.1.2.2
  refine ⟨94, rr e2, b, r3' e2, hS.sa, sp_Gr_gaps hS.sa hn g2.2.2.1.1 ⟨rfl, sp_takeNumber (lo := 0) (hi := gpN s.g.n) (α := GpS) rfl (by omega) (by omega) T2 (fun f hf S3 F3 T3 => ⟨fun y => absurd rfl y, fun _ => k 0 S3 (Or.inl rfl) ?_⟩) (fun gap _ v2 hv S3 F3 T3 => ⟨fun _ => ?_, fun y => absurd y (nI_ne_m1 (by omega))⟩)⟩⟩
  · rw [hf]
    exact ⟨rfl, g2.1.u F3, T3⟩
  · rw [hv] at k
    have g3 := g2.tok hb F3 T3
    have e3 : S3.2.2 = S0.2.2 := g3.1.2.2
    have mk : ∀ over, over < 2 → (∀ x S', (x = 0 ∨ x = 1) → OutC b S0 B L x S' (if (psG s.g gap over).1 = 0 then .inl (blF 5 (tkF B L (tkF B L s.t.e).e)) else seK B L (tkF B L (tkF B L (tkF B L s.t.e).e).e) fun t3 => .inr (t3, (psG s.g gap over).2, s.nm, s.od, s.ld, true)) → P x S') → ∃ r16, S3.2.2 93 3 = some r16 ∧ sh0[r16]? = some (0, 2) ∧ Sp l m_Gr_makePass (d + 4) 0 0 [.ref r16, .int (((2 : Int32) * nI gap) + nI over)] sh0 S3 (gI sh0 (fun x19 S18 => ((¬ x19 = (-1) → ∃ r21, S18.2.2 93 2 = some r21 ∧ sh0[r21]? = some (0, 6) ∧ Sp l m_To_advance (d + 4) 0 0 [.ref r21] sh0 S18 (gV sh0 (fun S23 => ∃ r24, S23.2.2 93 2 = some r24 ∧ sh0[r24]? = some (0, 6) ∧ Sp l m_To_takeSemicolon (d + 4) 0 0 [.ref r24] sh0 S23 (gI sh0 (fun x27 S26 => ((x27 = 0 ∨ x27 = 1) ∧ P x27 S26)))))) ∧ (x19 = (-1) → ∃ r29, S18.2.2 93 2 = some r29 ∧ sh0[r29]? = some (0, 6) ∧ Sp l m_To_blame (d + 4) 0 0 [.ref r29, .int 5] sh0 S18 (gI sh0 (fun x32 S31 => ((x32 = 0 ∨ x32 = 1) ∧ P x32 S31))))))) := by
      intro over ho k
      refine ⟨b, r3' e3, hS.sa, ?_⟩
      rw [show (2 : Int32) * nI gap = nI (2 * gap) by rw [show (2 : Int32) = nI 2 from rfl, pk_mul], nI_add]
      refine sp_make (hS' e3) b1 g3.2.2.1 v2 ho (fun r S4 F4 G4 hr e3' e4' => ?_)
      have e4 : S4.2.2 = S0.2.2 := F4.R.trans e3
      have g4 : GcR b S0 S4 B L (tkF B L (tkF B L s.t.e).e, (psG s.g gap over).2, s.nm, s.od, s.ld, true) := by
        obtain ⟨a1, a2, a3, a4, a5⟩ := g3
        have c : ∀ k, k = 94 ∨ k = 10 ∨ k = 93 → S4.1 k = S3.1 k := fun k hk => F4.cell (fun j => by unfold GX; omega)
        refine ⟨⟨fun k j q => ?_, fun k j q => ?_, e4⟩, a2.fr (c _ (by omega)) (c _ (by omega)) (by rw [F4.L]) (by rw [F4.L]) F4.R, G4, fun d hd => ?_, ?_⟩
        · rw [F4.1 k j (by unfold GX; omega)]; exact a1.1 k j q
        · rw [F4.L]; exact a1.2.1 k j q
        · rw [F4.L]
          exact a4 d (by have : (psG s.g gap over).2.n = s.g.n := (ps_ok b1 b2 v2 ho).2.2.1; rw [← this]; exact hd)
        · rw [c 93 (by omega)]; exact a5
      refine ⟨fun y => ⟨94, rr e4, rfl, sp_advC g4.2.1 (fun S5 F5 T5 => ⟨94, rr (F5.2.2.trans e4), rfl, ?_⟩)⟩, fun y => ⟨94, rr e4, rfl, sp_blame (k0 := 5) g4.2.1 (fun S' F T => ⟨Or.inl rfl, k 0 S' (Or.inl rfl) ?_⟩)⟩⟩
      · rw [if_neg (fun z => y (hr.mp z))] at k
        have g5 := g4.tok hb F5 T5
        refine sp_semi (α := GpS) T5 (fun f hf S7 F7 T7 => ⟨Or.inl rfl, k 0 S7 (Or.inl rfl) ?_⟩) (fun hf S7 F7 T7 => ⟨Or.inr rfl, k 1 S7 (Or.inr rfl) ?_⟩)
        · rw [hf]
          exact ⟨rfl, g5.1.u F7, T7⟩
        · rw [hf]
          exact ⟨rfl, g5.tok hb F7 T7⟩
      · rw [if_pos (hr.mpr y)]
        exact ⟨rfl, g4.1.u F, T⟩
    refine sp_howOver (rr e3) T3 (fun q => ⟨fun _ => ?_, fun y => absurd y (by decide)⟩) (fun q1 q2 => ⟨fun _ => ?_, fun y => absurd y (by decide)⟩) (fun q1 q2 => ⟨fun y => absurd rfl y, fun _ => ⟨94, rr e3, rfl, sp_blame (k0 := 2) T3 (fun S' F T => ⟨Or.inl rfl, k 0 S' (Or.inl rfl) ?_⟩)⟩⟩)
    · rw [if_pos q] at k
      exact mk 1 (by omega) k
    · rw [if_neg q1, if_pos q2] at k
      exact mk 0 (by omega) k
    · rw [if_neg q1, if_neg q2]
      exact ⟨rfl, g3.1.u F, T⟩
theorem sp_takePart {P : Int32 → aw_S → Prop} (hR : RefsOk S0.2.2) (r3 : S0.2.2 93 3 = some b) (hb : b = 11 ∨ b = 26) (hB : GpB s) (h : GcR b S0 S B L s) (k : ∀ x S', (x = 0 ∨ x = 1) → OutC b S0 B L x S' (gpart B L s) → P x S') : Sp l m_Re_takePart (d + 6) 0 0 [.ref 93] sh0 S (gI sh0 P) := by
  obtain ⟨h1, h2, h3, h4, h5, h6, h7⟩ := id h
  obtain ⟨-, c, w, -, -, r⟩ := id h2
  have rr : S.2.2 93 2 = some 94 := by rw [h1.2.2]; exact hR.at (by decide)
  have bad : (∀ i, rwT B s.t = some i → i ≠ 0 ∧ i ≠ 1 ∧ i ≠ 2 ∧ i ≠ 4) → gpart B L s = .inl (blF 2 s.t) := by
    intro hi
    unfold gpart
    split
    · rename_i e; exact absurd rfl (hi 0 e).1
    · rename_i e; exact absurd rfl (hi 1 e).2.1
    · rename_i e; exact absurd rfl (hi 2 e).2.2.1
    · rename_i e; exact absurd rfl (hi 4 e).2.2.2
    · rfl
  have e0 := oI_rw (B := B) (t := s.t) (w := 0) (by omega)
  have e1 := oI_rw (B := B) (t := s.t) (w := 1) (by omega)
  have e2 := oI_rw (B := B) (t := s.t) (w := 2) (by omega)
  have e3 := oI_rw (B := B) (t := s.t) (w := 3) (by omega)
  have e4 := oI_rw (B := B) (t := s.t) (w := 4) (by omega)
  refine e_Re_takePart rfl ⟨94, rr, rfl, sp_reserved r w c ⟨fun z => ⟨94, rr, rfl, sp_blame (k0 := 2) h2 (fun S' F T => ⟨Or.inl rfl, k 0 S' (Or.inl rfl) ?_⟩)⟩, fun z => sp_takeOdds hR r3 hb h (fun x S' hx o => ⟨hx, k x S' hx ?_⟩), fun z => sp_takeLong hR r3 hb h (fun x S' hx o => ⟨hx, k x S' hx ?_⟩), fun z => sp_takeDancer hR r3 hb hB h (fun x S' hx o => ⟨hx, k x S' hx ?_⟩), fun z => ⟨94, rr, rfl, sp_blame (k0 := 2) h2 (fun S' F T => ⟨Or.inl rfl, k 0 S' (Or.inl rfl) ?_⟩)⟩, fun z => sp_takeTextPass hR r3 hb hB h (fun x S' hx o => ⟨hx, k x S' hx ?_⟩)⟩⟩
  · rw [bad]
    · exact ⟨rfl, h1.u F, T⟩
    · intro i hi
      have lt := (rwT_lt hi).1
      rw [hi] at z
      have z : (nI i).toInt < 0 ∨ 4 < (nI i).toInt := z
      rw [nI_toInt (by omega)] at z
      omega
  · have : gpart B L s = gpOdds B L s := by
      unfold gpart
      rw [e0.mp z]
      rfl
    rw [this]
    exact o
  · have : gpart B L s = gpLong B L s := by
      unfold gpart
      rw [e1.mp z]
      rfl
    rw [this]
    exact o
  · have : gpart B L s = gpDancer B L s := by
      unfold gpart
      rw [e2.mp z]
      rfl
    rw [this]
    exact o
  · rw [bad]
    · exact ⟨rfl, h1.u F, T⟩
    · intro i hi
      have := e3.mp z
      rw [hi] at this
      have := Option.some.inj this
      omega
  · have : gpart B L s = gpPass B L s := by
      unfold gpart
      rw [e4.mp z]
      rfl
    rw [this]
    exact o
end GPC
