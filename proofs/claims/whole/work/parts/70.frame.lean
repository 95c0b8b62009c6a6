/-! frames: what a piece leaves as it was -/
def FrI (X : Nat → Nat → Prop) (S S' : aw_S) : Prop := (∀ k j, ¬ X k j → S'.1 k j = S.1 k j) ∧ S'.2 = S.2
theorem FrI.refl (X : Nat → Nat → Prop) (S : aw_S) : FrI X S S := ⟨fun _ _ _ => rfl, rfl⟩
theorem FrI.trans {X : Nat → Nat → Prop} {S S' S'' : aw_S} (h : FrI X S S') (h' : FrI X S' S'') : FrI X S S'' := ⟨fun k j q => (h'.1 k j q).trans (h.1 k j q), h'.2.trans h.2⟩
theorem FrI.mono {X Y : Nat → Nat → Prop} {S S' : aw_S} (h : FrI X S S') (hxy : ∀ k j, X k j → Y k j) : FrI Y S S' := ⟨fun k j q => h.1 k j (fun z => q (hxy k j z)), h.2⟩
theorem FrI.uI {X : Nat → Nat → Prop} {S S' : aw_S} (h : FrI X S S') {k j : Nat} (v : Int32) (hx : X k j) : FrI X S (aw_uI S' k j v) := by
  refine ⟨fun c i q => ?_, h.2⟩
  rw [uI_at]
  by_cases e : c = k
  · subst e
    rw [if_pos rfl, if_neg (fun z => q (by rw [z]; exact hx))]
    exact h.1 c i q
  · rw [if_neg e]
    exact h.1 c i q
theorem FrI.wI {X : Nat → Nat → Prop} {S S' : aw_S} (h : FrI X S S') {k : Nat} (g : Nat → Int32) (hx : ∀ j, X k j ∨ g j = S'.1 k j) : FrI X S (aw_wI S' k g) := by
  refine ⟨fun c i q => ?_, h.2⟩
  rw [wI_at]
  by_cases e : c = k
  · subst e
    rw [if_pos rfl, (hx i).resolve_left q]
    exact h.1 c i q
  · rw [if_neg e]
    exact h.1 c i q
theorem FrI.cell {X : Nat → Nat → Prop} {S S' : aw_S} (h : FrI X S S') {k : Nat} (hx : ∀ j, ¬ X k j) : S'.1 k = S.1 k := funext fun j => h.1 k j (hx j)
theorem FrI.L {X : Nat → Nat → Prop} {S S' : aw_S} (h : FrI X S S') : S'.2.1 = S.2.1 := by rw [h.2]
theorem FrI.R {X : Nat → Nat → Prop} {S S' : aw_S} (h : FrI X S S') : S'.2.2 = S.2.2 := by rw [h.2]
/-- where a call may write ints when the greens a and b are at hand -/
def ZI (a b k j : Nat) : Prop := (k = 0 ∧ j = 3) ∨ (k = 114 ∧ j ≠ 10 ∧ j ≠ 16 ∧ j ≠ 17 ∧ j ≠ 50 ∧ j ≠ 51) ∨ (a ≤ k ∧ k < a + 15) ∨ (b ≤ k ∧ k < b + 15) ∨ k = 25 ∨ k = 40 ∨ k = 56 ∨ k = 71 ∨ (86 ≤ k ∧ k ≤ 97) ∨ (99 ≤ k ∧ k ≤ 113) ∨ (k = 115 ∧ (j < 552 ∨ 2208 ≤ j)) ∨ (121 ≤ k ∧ k ≤ 141)
def ZL (a b k j : Nat) : Prop := k = 111 ∨ k = 112 ∨ k = 113 ∨ k = 114 ∨ k = a + 1 ∨ k = b + 1 ∨ k = 94 ∨ (k = 116 ∧ (j < 7 ∨ 28 ≤ j)) ∨ (120 ≤ k)
theorem Inv.gen {S S' : aw_S} {a b a' b' : Nat} (h : Inv S) (ha : S.2.2 0 6 = some a) (hb : S.2.2 0 7 = some b) (hI : ∀ k j, ¬ ZI a b k j → S'.1 k j = S.1 k j) (hL : ∀ k j, ¬ ZL a b k j → S'.2.1 k j = S.2.1 k j) (hR : RefsOk S'.2.2) (ha' : S'.2.2 0 6 = some a') (hb' : S'.2.2 0 7 = some b') (hab : (a' = a ∧ b' = b) ∨ (a' = b ∧ b' = a)) (hs : S'.1 0 3 = S'.1 114 2) (hf : S'.2.1 111 0 = S'.2.1 114 3 ∧ S'.2.1 111 1 = S'.2.1 114 4) (hg : ggR S'.1 S'.2.1 a' 0 0) : Inv S' := by
  obtain ⟨i1, i2, i3, i4, i5, i6, i7, i8, i9, i10⟩ := h
  have e2 : (a = 11 ∧ b = 26) ∨ (a = 26 ∧ b = 11) := by
    obtain ⟨x, y, h1, h2, h3, -⟩ := i7
    have ea : a = x := Option.some.inj (ha.symm.trans h1)
    have eb : b = y := Option.some.inj (hb.symm.trans h2)
    omega
  have cI : ∀ k, (∀ j, ¬ ZI a b k j) → S'.1 k = S.1 k := fun k q => funext fun j => hI k j (q j)
  have cL : ∀ k, (∀ j, ¬ ZL a b k j) → S'.2.1 k = S.2.1 k := fun k q => funext fun j => hL k j (q j)
  have n0 : ∀ j, j ≠ 3 → S'.1 0 j = S.1 0 j := fun j q => hI 0 j (by unfold ZI; omega)
  refine ⟨hs, hf, ?_, ?_, ?_, ?_, ?_, ?_, hR, ?_⟩
  · rw [n0 4 (by omega), n0 5 (by omega), hI 114 16 (by unfold ZI; omega), hI 114 17 (by unfold ZI; omega)]
    exact i3
  · rw [n0 14 (by omega), hI 114 50 (by unfold ZI; omega), cI 98 (fun j => by unfold ZI; omega), cI 142 (fun j => by unfold ZI; omega)]
    exact i4
  · rw [n0 2 (by omega), hI 114 10 (by unfold ZI; omega), cI 10 (fun j => by unfold ZI; omega), cI 120 (fun j => by unfold ZI; omega)]
    exact i5
  · rw [n0 9 (by omega), hI 114 51 (by unfold ZI; omega)]
    obtain ⟨k, h1, h2, h3, h4⟩ := i6
    refine ⟨k, h1, h2, h3, fun i hi => (h4 i hi).fr (fun c q1 q2 => cI c (fun j => by unfold ZI; omega)) (fun j hj => hI 115 _ (by unfold ZI; omega)) (cL _ (fun j => by unfold ZL; omega)) (fun d hd => hL 116 _ (by unfold ZL; omega))⟩
  · exact ⟨a', b', ha', hb', by omega, hg⟩
  · exact i8.fr (fun k hk => cI k (fun j => by unfold ZI; omega)) (fun k hk => cL k (fun j => by unfold ZL; omega))
  · rw [cL 95 (fun j => by unfold ZL; omega)]
    exact i10
/-- what the now-green is -/
def GM : Type := Nat × Nat × Nat × Nat × (Nat → Nat) × (Nat → Nat) × (Nat → Nat)
abbrev GM.n (g : GM) : Nat := g.1
abbrev GM.od (g : GM) : Nat := g.2.1
abbrev GM.lg (g : GM) : Nat := g.2.2.1
abbrev GM.m (g : GM) : Nat := g.2.2.2.1
abbrev GM.f (g : GM) : Nat → Nat := g.2.2.2.2.1
abbrev GM.col (g : GM) : Nat → Nat := g.2.2.2.2.2.1
abbrev GM.std (g : GM) : Nat → Nat := g.2.2.2.2.2.2
abbrev bdG (g : GM) : Prop := bdP g.n g.od g.lg g.m g.f g.col g.std
abbrev GrG (I : Nat → Nat → Int32) (a : Nat) (g : GM) : Prop := GrP I a g.n g.od g.lg g.m g.f g.col g.std
abbrev MdG (I : Nat → Nat → Int32) (s : Nat) (g : GM) : Prop := MdP I s g.n g.od g.lg g.m g.f g.col g.std
def nx (n p : Nat) : Nat := (p + 1) % n
def swS (n : Nat) (std : Nat → Nat) (gap p : Nat) : Nat := if p = gap then std (nx n gap) else if p = nx n gap then std gap else std p
def remF (f : Nat → Nat) (k i : Nat) : Nat := if i < k then f i else f (i + 1)
def insF (f : Nat → Nat) (k v i : Nat) : Nat := if i < k then f i else if i = k then v else f (i - 1)
def rmG (g : GM) (k : Nat) : GM := (g.n, g.od, g.lg, g.m - 1, remF g.f k, g.col, swS g.n g.std (g.f k % 8))
def inG (g : GM) (k v : Nat) : GM := (g.n, g.od, g.lg, g.m + 1, insF g.f k v, g.col, swS g.n g.std (v % 8))
def lfN (g : GM) (d : Nat) : Nat := g.lg - usN g.f d g.m
def canN (g : GM) (gap : Nat) : Prop := g.m < 40 ∧ 0 < lfN g (g.std gap) ∧ 0 < lfN g (g.std (nx g.n gap))
def npN (g : GM) (gap over : Nat) : Nat := gap + 8 * over + 16 * (if over = 1 then g.std gap else g.std (nx g.n gap)) + 128 * (if over = 1 then g.std (nx g.n gap) else g.std gap)
abbrev ubG (g : GM) (gap over : Nat) : Option Nat := ub g.f (tchN g.n gap) gap over g.m
/-- shapes and refs of a green at a -/
def GrS (sh : aw_SH) (R : Nat → Nat → Option Nat) (a : Nat) : Prop := (sh[a]? = some (0, 2)) ∧ (R a 5 = some (a + 1)) ∧ (R a 6 = some (a + 2)) ∧ (R a 7 = some (a + 3)) ∧ (R a 8 = some (a + 4)) ∧ (R a 9 = some (a + 5)) ∧ (R a 10 = some (a + 6)) ∧ (R a 11 = some (a + 8)) ∧ (R a 12 = some (a + 14)) ∧ (R (a + 6) 0 = some (a + 7)) ∧ (sh[a + 1]? = some (4, 7)) ∧ (sh[a + 2]? = some (3, 7)) ∧ (sh[a + 3]? = some (3, 7)) ∧ (sh[a + 4]? = some (3, 7)) ∧ (sh[a + 5]? = some (3, 7)) ∧ (sh[a + 6]? = some (0, 3)) ∧ (sh[a + 7]? = some (3, 40)) ∧ (sh[a + 14]? = some (3, 7))
theorem GrS.sa {sh : aw_SH} {R : Nat → Nat → Option Nat} {a : Nat} (h : GrS sh R a) : sh[a]? = some (0, 2) := h.1
theorem GrS.r5 {sh : aw_SH} {R : Nat → Nat → Option Nat} {a : Nat} (h : GrS sh R a) : R a 5 = some (a + 1) := h.2.1
theorem GrS.r6 {sh : aw_SH} {R : Nat → Nat → Option Nat} {a : Nat} (h : GrS sh R a) : R a 6 = some (a + 2) := h.2.2.1
theorem GrS.r7 {sh : aw_SH} {R : Nat → Nat → Option Nat} {a : Nat} (h : GrS sh R a) : R a 7 = some (a + 3) := h.2.2.2.1
theorem GrS.r8 {sh : aw_SH} {R : Nat → Nat → Option Nat} {a : Nat} (h : GrS sh R a) : R a 8 = some (a + 4) := h.2.2.2.2.1
theorem GrS.r9 {sh : aw_SH} {R : Nat → Nat → Option Nat} {a : Nat} (h : GrS sh R a) : R a 9 = some (a + 5) := h.2.2.2.2.2.1
theorem GrS.r10 {sh : aw_SH} {R : Nat → Nat → Option Nat} {a : Nat} (h : GrS sh R a) : R a 10 = some (a + 6) := h.2.2.2.2.2.2.1
theorem GrS.r11 {sh : aw_SH} {R : Nat → Nat → Option Nat} {a : Nat} (h : GrS sh R a) : R a 11 = some (a + 8) := h.2.2.2.2.2.2.2.1
theorem GrS.r12 {sh : aw_SH} {R : Nat → Nat → Option Nat} {a : Nat} (h : GrS sh R a) : R a 12 = some (a + 14) := h.2.2.2.2.2.2.2.2.1
theorem GrS.rp {sh : aw_SH} {R : Nat → Nat → Option Nat} {a : Nat} (h : GrS sh R a) : R (a + 6) 0 = some (a + 7) := h.2.2.2.2.2.2.2.2.2.1
theorem GrS.s1 {sh : aw_SH} {R : Nat → Nat → Option Nat} {a : Nat} (h : GrS sh R a) : sh[a + 1]? = some (4, 7) := h.2.2.2.2.2.2.2.2.2.2.1
theorem GrS.s2 {sh : aw_SH} {R : Nat → Nat → Option Nat} {a : Nat} (h : GrS sh R a) : sh[a + 2]? = some (3, 7) := h.2.2.2.2.2.2.2.2.2.2.2.1
theorem GrS.s3 {sh : aw_SH} {R : Nat → Nat → Option Nat} {a : Nat} (h : GrS sh R a) : sh[a + 3]? = some (3, 7) := h.2.2.2.2.2.2.2.2.2.2.2.2.1
theorem GrS.s4 {sh : aw_SH} {R : Nat → Nat → Option Nat} {a : Nat} (h : GrS sh R a) : sh[a + 4]? = some (3, 7) := h.2.2.2.2.2.2.2.2.2.2.2.2.2.1
theorem GrS.s5 {sh : aw_SH} {R : Nat → Nat → Option Nat} {a : Nat} (h : GrS sh R a) : sh[a + 5]? = some (3, 7) := h.2.2.2.2.2.2.2.2.2.2.2.2.2.2.1
theorem GrS.s6 {sh : aw_SH} {R : Nat → Nat → Option Nat} {a : Nat} (h : GrS sh R a) : sh[a + 6]? = some (0, 3) := h.2.2.2.2.2.2.2.2.2.2.2.2.2.2.2.1
theorem GrS.s7 {sh : aw_SH} {R : Nat → Nat → Option Nat} {a : Nat} (h : GrS sh R a) : sh[a + 7]? = some (3, 40) := h.2.2.2.2.2.2.2.2.2.2.2.2.2.2.2.2.1
theorem GrS.s14 {sh : aw_SH} {R : Nat → Nat → Option Nat} {a : Nat} (h : GrS sh R a) : sh[a + 14]? = some (3, 7) := h.2.2.2.2.2.2.2.2.2.2.2.2.2.2.2.2.2
theorem GrS.mk0 {R : Nat → Nat → Option Nat} (h : RefsOk R) {a : Nat} (ha : a = 11 ∨ a = 26 ∨ a = 42 ∨ a = 57 ∨ a = 72) : GrS sh0 R a := by
  rcases ha with rfl | rfl | rfl | rfl | rfl
  all_goals exact ⟨rfl, h.at (by decide), h.at (by decide), h.at (by decide), h.at (by decide), h.at (by decide), h.at (by decide), h.at (by decide), h.at (by decide), h.at (by decide), rfl, rfl, rfl, rfl, rfl, rfl, rfl, rfl⟩
/-- where a pass writes -/
def GX (a k j : Nat) : Prop := (k = a ∧ (j = 3 ∨ j = 4)) ∨ (a + 3 ≤ k ∧ k ≤ a + 7)
def MX (s k j : Nat) : Prop := k = 115 ∧ (j = s + 3 ∨ (s + 17 ≤ j ∧ j < s + 184))
theorem gp_le (n : Nat) : gpN n ≤ n := by
  unfold gpN
  split
  · omega
  · split <;> omega
theorem gp_2 {n g : Nat} (h : g < gpN n) : 2 ≤ n := by
  unfold gpN at h
  split at h <;> omega
theorem nx_lt {n p : Nat} (h : 0 < n) : nx n p < n := Nat.mod_lt _ h
theorem nx_ne {n p : Nat} (h : 2 ≤ n) (hp : p < n) : nx n p ≠ p := by
  unfold nx
  by_cases e : p + 1 = n
  · rw [e, Nat.mod_self]; omega
  · rw [Nat.mod_eq_of_lt (by omega)]; omega
theorem tch_self (n g : Nat) : tchN n g g = true := by simp [tchN]
theorem tch_sym (n g h : Nat) : tchN n g h = tchN n h g := by
  unfold tchN
  rw [show decide (g = h) = decide (h = g) from decide_eq_decide.mpr eq_comm, Bool.or_comm (decide ((g + 1) % n = h))]
