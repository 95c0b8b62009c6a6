/-! feasts as a text: pure -/
/-- a token; how many entries, their codes, numbers, ends; how many are not closed, which -/
abbrev FpS : Type := TK × Nat × (Nat → Nat) × (Nat → Nat) × (Nat → Nat) × (Nat → Nat) × (Nat → Nat) × Nat × (Nat → Nat)
abbrev FpS.t (s : FpS) : TK := s.1
abbrev FpS.N (s : FpS) : Nat := s.2.1
abbrev FpS.cd (s : FpS) : Nat → Nat := s.2.2.1
abbrev FpS.xa (s : FpS) : Nat → Nat := s.2.2.2.1
abbrev FpS.xb (s : FpS) : Nat → Nat := s.2.2.2.2.1
abbrev FpS.xc (s : FpS) : Nat → Nat := s.2.2.2.2.2.1
abbrev FpS.pr (s : FpS) : Nat → Nat := s.2.2.2.2.2.2.1
abbrev FpS.D (s : FpS) : Nat := s.2.2.2.2.2.2.2.1
abbrev FpS.sk (s : FpS) : Nat → Nat := s.2.2.2.2.2.2.2.2
/-- an entry that can be -/
def enV (n c x1 x2 x5 : Nat) : Prop := (c = 3 ∧ x1 < gpN n ∧ x2 < 2) ∨ c = 7 ∨ (c = 8 ∧ 1 ≤ x1 ∧ x1 ≤ 9) ∨ (c = 9 ∧ x1 < n ∧ x2 ≤ 5) ∨ c = 10 ∨ c = 14 ∨ (c = 12 ∧ 1 ≤ x1 ∧ x1 ≤ 99) ∨ (c = 1115 ∧ x1 < n) ∨ (c = 1116 ∧ x1 < n ∧ x2 < n) ∨ (c = 1117 ∧ x1 < gpN n ∧ x2 ≤ 6) ∨ (c = 1118 ∧ (x5 = 60 ∨ x5 = 61 ∨ x5 = 62) ∧ x2 ≤ 40)
def isStp (k : Nat) : Prop := k = 4 ∨ k = 7 ∨ k = 8 ∨ k = 9 ∨ k = 10 ∨ k = 11 ∨ k = 16 ∨ k = 18
section FPU
variable {α : Type} (B : Nat → Nat) (L n : Nat) (nm : Nat → List Nat)
def naK (t : TK) (F : Nat → TK → RsT α) : RsT α := if t.k = 1 ∧ t.e - t.b ≤ 8 ∧ rwT B t = none then (match nmF nm (wdT B t) n 0 with | some d => F d (tkF B L t.e) | none => .inl (blF 3 t)) else .inl (blF 2 t)
def fres (form : Nat) (t : TK) (F : Nat → Nat → Nat → Nat → TK → RsT α) : RsT α :=
  if form = 4 then nuK B L t 0 (gpN n) fun g t2 => if rwT B t2 = some 5 then F 3 g 1 0 (tkF B L t2.e) else if rwT B t2 = some 6 then F 3 g 0 0 (tkF B L t2.e) else .inl (blF 2 t2)
  else if form = 8 then nuK B L t 1 10 fun v t2 => F 8 v 0 0 t2
  else if form = 9 then naK B L n nm t fun d t2 => nuK B L t2 0 6 fun c t3 => F 9 d c 0 t3
  else if form = 16 then nuK B L t 1 100 fun v t2 => F 12 v 0 0 t2
  else if form = 12 then naK B L n nm t fun d t2 => F 1115 d 0 0 t2
  else if form = 13 then naK B L n nm t fun d t2 => nuK B L t2 0 n fun p t3 => F 1116 d p 0 t3
  else if form = 14 then nuK B L t 0 (gpN n) fun g t2 => nuK B L t2 0 7 fun c t3 => F 1117 g c 0 t3
  else if form = 15 then (if t.k = 3 ∧ ¬ B t.b = 59 then nuK B L (tkF B L t.e) 0 41 fun v t3 => F 1118 0 v (B t.b) t3 else .inl (blF 2 t))
  else if form = 11 then .inl (blF 2 t)
  else F (if form = 18 then 14 else form) 0 0 0 t
def frK (form : Nat) (t : TK) (F : Nat → Nat → Nat → Nat → TK → RsT α) : RsT α := if form = 11 then (if rwT B t = some 12 then fres B L n nm 12 (tkF B L t.e) F else if rwT B t = some 13 then fres B L n nm 13 (tkF B L t.e) F else if rwT B t = some 14 then fres B L n nm 14 (tkF B L t.e) F else if rwT B t = some 15 then fres B L n nm 15 (tkF B L t.e) F else .inl (blF 2 t)) else fres B L n nm form t F
end FPU
def addS (s : FpS) (t' : TK) (c x1 x2 x5 : Nat) : FpS := (t', s.N + 1, upN s.cd s.N c, upN s.xa s.N x1, upN s.xb s.N x2, upN s.xc s.N x5, upN s.pr s.N 1000, if c = 12 ∨ 1100 ≤ c then s.D + 1 else s.D, if c = 12 ∨ 1100 ≤ c then upN s.sk s.D s.N else s.sk)
def cloS (s : FpS) (t' : TK) : FpS := (t', s.N + 1, upN s.cd s.N 13, s.xa, s.xb, s.xc, upN (upN s.pr (s.sk (s.D - 1)) s.N) s.N (s.sk (s.D - 1)), s.D - 1, s.sk)
section FPS
variable (B : Nat → Nat) (L n : Nat) (nm : Nat → List Nat)
def fbody (s : FpS) (k : Nat) : RsT FpS := if k = 4 ∨ k = 7 ∨ k = 8 ∨ k = 9 ∨ k = 10 ∨ k = 11 ∨ k = 16 ∨ k = 18 then (if ncN s.cd s.N = 30 then .inl (blF 6 s.t) else if (k = 11 ∨ k = 16) ∧ s.D = 3 then .inl (blF 7 s.t) else frK B L n nm k (tkF B L s.t.e) fun c x1 x2 x5 t2 => seK B L t2 fun t' => .inr (addS s t' c x1 x2 x5)) else .inl (blF 2 s.t)
def fstep (s : FpS) : RsT FpS := match rwT B s.t with
  | none => .inl (blF 2 s.t)
  | some k => if k = 17 then (if s.D = 0 then .inl (blF 2 s.t) else seK B L (tkF B L s.t.e) fun t' => .inr (cloS s t')) else fbody B L n nm s k
def fend (s : FpS) : RsT FpS := if s.D = 0 then .inr s else .inl (blF 2 s.t)
def fall : Nat → FpS → RsT FpS
  | 0, s => fend s
  | f + 1, s => if s.t.k = 0 then fend s else match fstep B L n nm s with
    | .inl f => .inl f
    | .inr s' => fall f s'
end FPS
def FpB (n : Nat) (s : FpS) : Prop := s.D ≤ 3 ∧ ncN s.cd s.N ≤ 30 ∧ s.N + s.D ≤ 2 * ncN s.cd s.N ∧
  (∀ e, e < s.N → s.cd e < 2000 ∧ (¬ s.cd e = 13 → enV n (s.cd e) (s.xa e) (s.xb e) (s.xc e))) ∧
  (∀ e, e < s.N → s.cd e = 13 → s.pr e < e ∧ opN s.cd (s.pr e) = true ∧ s.pr (s.pr e) = e) ∧
  (∀ e, e < s.N → opN s.cd e = true → (s.pr e = 1000 ∧ ∃ i, i < s.D ∧ s.sk i = e) ∨ (e < s.pr e ∧ s.pr e < s.N ∧ s.cd (s.pr e) = 13 ∧ s.pr (s.pr e) = e)) ∧
  (∀ i, i < s.D → s.sk i < s.N ∧ opN s.cd (s.sk i) = true ∧ s.pr (s.sk i) = 1000) ∧
  (∀ i j, i < j → j < s.D → s.sk i < s.sk j) ∧
  (∀ e e', e < s.N → e' < s.N → opN s.cd e = true → opN s.cd e' = true → e < e' → e' < s.pr e → s.pr e' < s.pr e ∨ s.pr e = 1000) ∧
  (∀ a b c d, d < s.N → opN s.cd a = true → opN s.cd b = true → opN s.cd c = true → opN s.cd d = true → a < b → b < s.pr a → b < c → c < s.pr b → c < d → d < s.pr c → False)
theorem nc_up {cd : Nat → Nat} {N v : Nat} : ∀ e, e ≤ N → ncN (upN cd N v) e = ncN cd e := by
  intro e
  induction e with
  | zero => intro _; rfl
  | succ e ih =>
    intro h
    show ncN (upN cd N v) e + (if upN cd N v e = 13 then 0 else 1) = ncN cd e + (if cd e = 13 then 0 else 1)
    rw [ih (by omega), upN_lt (by omega)]
theorem op_up {cd : Nat → Nat} {N v e : Nat} (h : e ≠ N) : opN (upN cd N v) e = opN cd e := by
  unfold opN
  rw [upN_lt h]
theorem op_iff {cd : Nat → Nat} {e : Nat} : opN cd e = true ↔ cd e = 12 ∨ 1100 ≤ cd e := by
  unfold opN
  rw [Bool.or_eq_true, decide_eq_true_iff, decide_eq_true_iff]
theorem enV_c {n c x1 x2 x5 : Nat} (h : enV n c x1 x2 x5) : c < 2000 ∧ c ≠ 13 := by
  unfold enV at h
  omega
theorem FpB.add {n : Nat} {s : FpS} {t' : TK} {c x1 x2 x5 : Nat} (h : FpB n s) (hv : enV n c x1 x2 x5) (h30 : ncN s.cd s.N < 30) (h3 : (c = 12 ∨ 1100 ≤ c) → s.D < 3) : FpB n (addS s t' c x1 x2 x5) := by
  obtain ⟨h1, h2, h4, h5, h6, h7, h8, h9, h10, h11⟩ := h
  obtain ⟨c1, c2⟩ := enV_c hv
  obtain ⟨t, N, cd, xa, xb, xc, pr, D, sk⟩ := s
  have h1 : D ≤ 3 := h1
  have h2 : ncN cd N ≤ 30 := h2
  have h4 : N + D ≤ 2 * ncN cd N := h4
  have h5 : ∀ e, e < N → cd e < 2000 ∧ (¬ cd e = 13 → enV n (cd e) (xa e) (xb e) (xc e)) := h5
  have h6 : ∀ e, e < N → cd e = 13 → pr e < e ∧ opN cd (pr e) = true ∧ pr (pr e) = e := h6
  have h7 : ∀ e, e < N → opN cd e = true → (pr e = 1000 ∧ ∃ i, i < D ∧ sk i = e) ∨ (e < pr e ∧ pr e < N ∧ cd (pr e) = 13 ∧ pr (pr e) = e) := h7
  have h8 : ∀ i, i < D → sk i < N ∧ opN cd (sk i) = true ∧ pr (sk i) = 1000 := h8
  have h9 : ∀ i j, i < j → j < D → sk i < sk j := h9
  have h10 : ∀ e e', e < N → e' < N → opN cd e = true → opN cd e' = true → e < e' → e' < pr e → pr e' < pr e ∨ pr e = 1000 := h10
  have h11 : ∀ a b c d, d < N → opN cd a = true → opN cd b = true → opN cd c = true → opN cd d = true → a < b → b < pr a → b < c → c < pr b → c < d → d < pr c → False := h11
  have h30 : ncN cd N < 30 := h30
  have h3 : (c = 12 ∨ 1100 ≤ c) → D < 3 := h3
  have N60 : N ≤ 60 := by omega
  have ncs : ncN (upN cd N c) (N + 1) = ncN cd N + 1 := by
    rw [nc_1 (by rw [upN_self]; exact c2), nc_up N (Nat.le_refl _)]
  have oN : opN (upN cd N c) N = true ↔ (c = 12 ∨ 1100 ≤ c) := by rw [op_iff, upN_self]
  have Dd : ∀ i, i < D → i < (if c = 12 ∨ 1100 ≤ c then D + 1 else D) ∧ (if c = 12 ∨ 1100 ≤ c then upN sk D N else sk) i = sk i := fun i hi => by
    split
    · exact ⟨by omega, upN_lt (by omega)⟩
    · exact ⟨hi, rfl⟩
  show FpB n (t', N + 1, upN cd N c, upN xa N x1, upN xb N x2, upN xc N x5, upN pr N 1000, if c = 12 ∨ 1100 ≤ c then D + 1 else D, if c = 12 ∨ 1100 ≤ c then upN sk D N else sk)
  refine ⟨?_, ?_, ?_, fun e he => ?_, fun e he hc => ?_, fun e he ho => ?_, fun i hi => ?_, fun i j hij hj => ?_, fun e e' he he' ho ho' h12 h13 => ?_, fun a b c' d hd oa ob oc od q1 q2 q3 q4 q5 q6 => ?_⟩
  · show (if c = 12 ∨ 1100 ≤ c then D + 1 else D) ≤ 3
    split
    · rename_i q
      have := h3 q
      omega
    · exact h1
  · show ncN (upN cd N c) (N + 1) ≤ 30
    omega
  · show N + 1 + (if c = 12 ∨ 1100 ≤ c then D + 1 else D) ≤ 2 * ncN (upN cd N c) (N + 1)
    rw [ncs]
    split <;> omega
  · have he : e < N + 1 := he
    show upN cd N c e < 2000 ∧ (¬ upN cd N c e = 13 → enV n (upN cd N c e) (upN xa N x1 e) (upN xb N x2 e) (upN xc N x5 e))
    by_cases z : e = N
    · rw [z, upN_self, upN_self, upN_self, upN_self]
      exact ⟨c1, fun _ => hv⟩
    · rw [upN_lt z, upN_lt z, upN_lt z, upN_lt z]
      exact h5 e (by omega)
  · have he : e < N + 1 := he
    have hc : upN cd N c e = 13 := hc
    show upN pr N 1000 e < e ∧ opN (upN cd N c) (upN pr N 1000 e) = true ∧ upN pr N 1000 (upN pr N 1000 e) = e
    by_cases z : e = N
    · rw [z, upN_self] at hc
      exact absurd hc c2
    · rw [upN_lt z] at hc ⊢
      have := h6 e (by omega) hc
      rw [op_up (by omega), upN_lt (by omega)]
      exact this
  · have he : e < N + 1 := he
    show (upN pr N 1000 e = 1000 ∧ ∃ i, i < (if c = 12 ∨ 1100 ≤ c then D + 1 else D) ∧ (if c = 12 ∨ 1100 ≤ c then upN sk D N else sk) i = e) ∨ (e < upN pr N 1000 e ∧ upN pr N 1000 e < N + 1 ∧ upN cd N c (upN pr N 1000 e) = 13 ∧ upN pr N 1000 (upN pr N 1000 e) = e)
    have ho : opN (upN cd N c) e = true := ho
    by_cases z : e = N
    · rw [z] at ho
      have q := oN.mp ho
      left
      rw [z, upN_self, if_pos q, if_pos q]
      exact ⟨rfl, D, by omega, upN_self⟩
    · rw [op_up z] at ho
      rw [upN_lt z]
      rcases h7 e (by omega) ho with ⟨a1, i, a2, a3⟩ | ⟨a1, a2, a3, a4⟩
      · exact Or.inl ⟨a1, i, (Dd i a2).1, (Dd i a2).2.trans a3⟩
      · right
        rw [upN_lt (by omega), upN_lt (by omega)]
        exact ⟨a1, by omega, a3, a4⟩
  · show (if c = 12 ∨ 1100 ≤ c then upN sk D N else sk) i < N + 1 ∧ opN (upN cd N c) ((if c = 12 ∨ 1100 ≤ c then upN sk D N else sk) i) = true ∧ upN pr N 1000 ((if c = 12 ∨ 1100 ≤ c then upN sk D N else sk) i) = 1000
    have hi : i < (if c = 12 ∨ 1100 ≤ c then D + 1 else D) := hi
    by_cases y : i < D
    · rw [(Dd i y).2]
      have := h8 i y
      rw [op_up (by omega), upN_lt (by omega)]
      exact ⟨by omega, this.2⟩
    · by_cases q : c = 12 ∨ 1100 ≤ c
      · rw [if_pos q] at hi
        rw [if_pos q]
        have z : i = D := by omega
        rw [z, upN_self, upN_self]
        exact ⟨by omega, oN.mpr q, rfl⟩
      · rw [if_neg q] at hi
        omega
  · show (if c = 12 ∨ 1100 ≤ c then upN sk D N else sk) i < (if c = 12 ∨ 1100 ≤ c then upN sk D N else sk) j
    have hj : j < (if c = 12 ∨ 1100 ≤ c then D + 1 else D) := hj
    by_cases y : j < D
    · rw [(Dd j y).2, (Dd i (by omega)).2]
      exact h9 i j hij y
    · by_cases q : c = 12 ∨ 1100 ≤ c
      · rw [if_pos q] at hj
        have z : j = D := by omega
        rw [(Dd i (by omega)).2, if_pos q, z, upN_self]
        exact (h8 i (by omega)).1
      · rw [if_neg q] at hj
        omega
  · have he : e < N + 1 := he
    have he' : e' < N + 1 := he'
    have ho : opN (upN cd N c) e = true := ho
    have ho' : opN (upN cd N c) e' = true := ho'
    have h13 : e' < upN pr N 1000 e := h13
    show upN pr N 1000 e' < upN pr N 1000 e ∨ upN pr N 1000 e = 1000
    have z : e ≠ N := by omega
    rw [op_up z] at ho
    rw [upN_lt z] at h13 ⊢
    by_cases y : e' = N
    · rcases h7 e (by omega) ho with ⟨a1, -⟩ | ⟨a1, a2, -⟩
      · exact Or.inr a1
      · omega
    · rw [op_up y] at ho'
      rw [upN_lt y]
      exact h10 e e' (by omega) (by omega) ho ho' h12 h13
  · have hd : d < N + 1 := hd
    have oa : opN (upN cd N c) a = true := oa
    have ob : opN (upN cd N c) b = true := ob
    have oc : opN (upN cd N c) c' = true := oc
    have od : opN (upN cd N c) d = true := od
    have q2 : b < upN pr N 1000 a := q2
    have q4 : c' < upN pr N 1000 b := q4
    have q6 : d < upN pr N 1000 c' := q6
    rw [op_up (by omega)] at oa ob oc
    rw [upN_lt (by omega)] at q2 q4 q6
    by_cases y : d = N
    · rw [y] at od q6
      have q := h3 (oN.mp od)
      have big : ∀ e, e < N → opN cd e = true → pr e ≤ 1000 := fun e he ho => by
        rcases h7 e he ho with ⟨a1, -⟩ | ⟨-, a2, -⟩ <;> omega
      rcases h7 c' (by omega) oc with ⟨a1, i1, a2, a3⟩ | ⟨-, a2, -⟩
      · have b1 : pr b = 1000 := by
          rcases h10 b c' (by omega) (by omega) ob oc q3 q4 with z | z
          · have := big b (by omega) ob
            omega
          · exact z
        rcases h7 b (by omega) ob with ⟨-, i2, a4, a5⟩ | ⟨-, z, -⟩
        · have b2 : pr a = 1000 := by
            rcases h10 a b (by omega) (by omega) oa ob q1 q2 with z | z
            · have := big a (by omega) oa
              omega
            · exact z
          rcases h7 a (by omega) oa with ⟨-, i3, a6, a7⟩ | ⟨-, z, -⟩
          · have n12 : i1 ≠ i2 := fun z => by rw [z] at a3; omega
            have n13 : i1 ≠ i3 := fun z => by rw [z] at a3; omega
            have n23 : i2 ≠ i3 := fun z => by rw [z] at a5; omega
            omega
          · omega
        · omega
      · omega
    · rw [op_up y] at od
      exact h11 a b c' d (by omega) oa ob oc od q1 q2 q3 q4 q5 q6
theorem FpB.clo {n : Nat} {s : FpS} {t' : TK} (h : FpB n s) (hD : 0 < s.D) : FpB n (cloS s t') := by
  obtain ⟨h1, h2, h4, h5, h6, h7, h8, h9, h10, h11⟩ := h
  obtain ⟨t, N, cd, xa, xb, xc, pr, D, sk⟩ := s
  have h1 : D ≤ 3 := h1
  have h2 : ncN cd N ≤ 30 := h2
  have h4 : N + D ≤ 2 * ncN cd N := h4
  have h5 : ∀ e, e < N → cd e < 2000 ∧ (¬ cd e = 13 → enV n (cd e) (xa e) (xb e) (xc e)) := h5
  have h6 : ∀ e, e < N → cd e = 13 → pr e < e ∧ opN cd (pr e) = true ∧ pr (pr e) = e := h6
  have h7 : ∀ e, e < N → opN cd e = true → (pr e = 1000 ∧ ∃ i, i < D ∧ sk i = e) ∨ (e < pr e ∧ pr e < N ∧ cd (pr e) = 13 ∧ pr (pr e) = e) := h7
  have h8 : ∀ i, i < D → sk i < N ∧ opN cd (sk i) = true ∧ pr (sk i) = 1000 := h8
  have h9 : ∀ i j, i < j → j < D → sk i < sk j := h9
  have h10 : ∀ e e', e < N → e' < N → opN cd e = true → opN cd e' = true → e < e' → e' < pr e → pr e' < pr e ∨ pr e = 1000 := h10
  have h11 : ∀ a b c d, d < N → opN cd a = true → opN cd b = true → opN cd c = true → opN cd d = true → a < b → b < pr a → b < c → c < pr b → c < d → d < pr c → False := h11
  have hD : 0 < D := hD
  have N60 : N ≤ 60 := by omega
  obtain ⟨o1, o2, o3⟩ := h8 (D - 1) (by omega)
  have top : ∀ i, i < D → sk i ≤ sk (D - 1) := fun i hi => by
    by_cases z : i = D - 1
    · rw [z]; exact Nat.le_refl _
    · exact Nat.le_of_lt (h9 i (D - 1) (by omega) (by omega))
  have ltop : ∀ i, i < D - 1 → sk i < sk (D - 1) := fun i hi => h9 i (D - 1) (by omega) (by omega)
  show FpB n (t', N + 1, upN cd N 13, xa, xb, xc, upN (upN pr (sk (D - 1)) N) N (sk (D - 1)), D - 1, sk)
  generalize ho0 : sk (D - 1) = o at *
  have oNo : ¬ opN (upN cd N 13) N = true := by
    rw [op_iff, upN_self]
    omega
  have p1 : upN (upN pr o N) N o N = o := upN_self
  have p2 : upN (upN pr o N) N o o = N := by rw [upN_lt (by omega), upN_self]
  have p3 : ∀ e, e ≠ N → e ≠ o → upN (upN pr o N) N o e = pr e := fun e q1 q2 => by rw [upN_lt q1, upN_lt q2]
  have op13 : ∀ e, opN cd e = true → cd e ≠ 13 := fun e he => op_13 he
  refine ⟨(show D - 1 ≤ 3 by omega), ?_, ?_, fun e he => ?_, fun e he hc => ?_, fun e he ho => ?_, fun i hi => ?_, fun i j hij hj => h9 i j hij (show j < D by have hj : j < D - 1 := hj; omega), fun e e' he he' ho ho' h12 h13 => ?_, fun a b c' d hd oa ob oc od q1 q2 q3 q4 q5 q6 => ?_⟩
  · show ncN (upN cd N 13) (N + 1) ≤ 30
    rw [nc_0 upN_self, nc_up N (Nat.le_refl _)]
    exact h2
  · show N + 1 + (D - 1) ≤ 2 * ncN (upN cd N 13) (N + 1)
    rw [nc_0 upN_self, nc_up N (Nat.le_refl _)]
    omega
  · have he : e < N + 1 := he
    show upN cd N 13 e < 2000 ∧ (¬ upN cd N 13 e = 13 → enV n (upN cd N 13 e) (xa e) (xb e) (xc e))
    by_cases z : e = N
    · rw [z, upN_self]
      exact ⟨by omega, fun y => absurd rfl y⟩
    · rw [upN_lt z]
      exact h5 e (by omega)
  · have he : e < N + 1 := he
    have hc : upN cd N 13 e = 13 := hc
    show upN (upN pr o N) N o e < e ∧ opN (upN cd N 13) (upN (upN pr o N) N o e) = true ∧ upN (upN pr o N) N o (upN (upN pr o N) N o e) = e
    by_cases z : e = N
    · rw [z, p1, p2, op_up (by omega)]
      exact ⟨o1, o2, rfl⟩
    · rw [upN_lt z] at hc
      obtain ⟨a1, a2, a3⟩ := h6 e (by omega) hc
      have eo : e ≠ o := fun y => op13 o o2 (by rw [← y]; exact hc)
      have po : pr e ≠ o := fun y => by
        rw [y, o3] at a3
        omega
      rw [p3 e z eo, op_up (by omega), p3 _ (by omega) po]
      exact ⟨a1, a2, a3⟩
  · have he : e < N + 1 := he
    have ho : opN (upN cd N 13) e = true := ho
    show (upN (upN pr o N) N o e = 1000 ∧ ∃ i, i < D - 1 ∧ sk i = e) ∨ (e < upN (upN pr o N) N o e ∧ upN (upN pr o N) N o e < N + 1 ∧ upN cd N 13 (upN (upN pr o N) N o e) = 13 ∧ upN (upN pr o N) N o (upN (upN pr o N) N o e) = e)
    have z : e ≠ N := fun y => oNo (by rw [y] at ho; exact ho)
    rw [op_up z] at ho
    by_cases y : e = o
    · right
      rw [y, p2, p1, upN_self]
      exact ⟨o1, by omega, rfl, rfl⟩
    · rw [p3 e z y]
      rcases h7 e (by omega) ho with ⟨a1, i, a2, a3⟩ | ⟨a1, a2, a3, a4⟩
      · have : i ≠ D - 1 := fun w => y (by rw [← a3, w]; exact ho0)
        exact Or.inl ⟨a1, i, by omega, a3⟩
      · right
        have po : pr e ≠ o := fun w => op13 o o2 (by rw [← w]; exact a3)
        rw [upN_lt (by omega), p3 _ (by omega) po]
        exact ⟨a1, by omega, a3, a4⟩
  · have hi : i < D - 1 := hi
    show sk i < N + 1 ∧ opN (upN cd N 13) (sk i) = true ∧ upN (upN pr o N) N o (sk i) = 1000
    obtain ⟨a1, a2, a3⟩ := h8 i (by omega)
    have := ltop i hi
    rw [op_up (by omega), p3 _ (by omega) (by omega)]
    exact ⟨by omega, a2, a3⟩
  · have he : e < N + 1 := he
    have he' : e' < N + 1 := he'
    have ho : opN (upN cd N 13) e = true := ho
    have ho' : opN (upN cd N 13) e' = true := ho'
    have h13 : e' < upN (upN pr o N) N o e := h13
    show upN (upN pr o N) N o e' < upN (upN pr o N) N o e ∨ upN (upN pr o N) N o e = 1000
    have z : e ≠ N := fun y => oNo (by rw [y] at ho; exact ho)
    have z' : e' ≠ N := fun y => oNo (by rw [y] at ho'; exact ho')
    rw [op_up z] at ho
    rw [op_up z'] at ho'
    by_cases y : e = o
    · rw [y] at h12
      rw [y, p2, p3 e' z' (by omega)]
      rcases h7 e' (by omega) ho' with ⟨-, i, a2, a3⟩ | ⟨-, a2, -⟩
      · have := top i a2
        omega
      · exact Or.inl a2
    · rw [p3 e z y] at h13 ⊢
      by_cases y' : e' = o
      · rw [y'] at h12 h13 ho'
        rcases h10 e o (by omega) o1 ho ho' h12 h13 with w | w
        · rcases h7 e (by omega) ho with ⟨a1, -⟩ | ⟨-, a2, -⟩ <;> omega
        · exact Or.inr w
      · rw [p3 e' z' y']
        exact h10 e e' (by omega) (by omega) ho ho' h12 h13
  · have hd : d < N + 1 := hd
    have oa : opN (upN cd N 13) a = true := oa
    have ob : opN (upN cd N 13) b = true := ob
    have oc : opN (upN cd N 13) c' = true := oc
    have od : opN (upN cd N 13) d = true := od
    have q2 : b < upN (upN pr o N) N o a := q2
    have q4 : c' < upN (upN pr o N) N o b := q4
    have q6 : d < upN (upN pr o N) N o c' := q6
    have zd : d ≠ N := fun y => oNo (by rw [y] at od; exact od)
    have le : ∀ e w, e ≠ N → w < N → w < upN (upN pr o N) N o e → w < pr e := fun e w h1 h2 h3 => by
      by_cases y : e = o
      · rw [y, o3]; omega
      · rw [p3 e h1 y] at h3; exact h3
    rw [op_up (by omega)] at oa ob oc od
    exact h11 a b c' d (by omega) oa ob oc od q1 (le a b (by omega) (by omega) q2) q3 (le b c' (by omega) (by omega) q4) q5 (le c' d (by omega) (by omega) q6)
