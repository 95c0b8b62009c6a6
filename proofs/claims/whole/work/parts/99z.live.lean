/-! live: both lives, and the call -/
theorem enR_of {n : Nat} {cd pr : Nat → Nat} {N e : Nat} {kd ts fs sd bh x1 x2 x4 x5 : Int32} (hn : n ≤ 7) (hN : N ≤ 60) (r : stR n cd N e kd ts fs sd bh x1 x2 x4 x5) (ho : opN cd e = true → x4 = nI (pr e) ∧ e < pr e ∧ pr e < N ∧ cd (pr e) = 13 ∧ pr (pr e) = e) : enR n cd pr e x1.toNatClampNeg x2.toNatClampNeg x5.toNatClampNeg kd ts fs sd bh x1 x2 x4 x5 := by
  have hg := gp_le n
  rcases r with ⟨a1, a2, ⟨g, o, b1, b2, b3, b4, b5, b6⟩, a5⟩ | ⟨a1, a2, a5⟩ | ⟨a1, a2, ⟨w, b1, b2, b3, b4⟩, a5⟩ | ⟨a1, a2, ⟨d, c, b1, b2, b3, b4, b5, b6⟩, a5⟩ | ⟨a1, a2, a5⟩ | ⟨a1, a2, a5⟩ | ⟨p, a1, a2, a3, a4, a5, r⟩
  · subst b3 b4 b5 b6
    rw [nI_clamp (by omega), nI_clamp (by omega)]
    refine Or.inl ⟨Or.inl ⟨a1, b1, b2⟩, by rw [a2, if_pos a1], fun _ => ⟨rfl, rfl⟩, fun _ => ⟨rfl, rfl⟩, a5⟩
  · refine Or.inl ⟨Or.inr (Or.inl a1), by rw [a2, if_neg (by omega), a1]; rfl, fun z => ?_, fun z => ?_, a5⟩ <;> omega
  · subst b3 b4
    rw [nI_clamp (n := w) (by omega)]
    refine Or.inl ⟨Or.inr (Or.inr (Or.inl ⟨a1, b2⟩)), by rw [a2, if_neg (by omega), a1]; rfl, fun _ => ⟨rfl, rfl⟩, fun z => ?_, a5⟩
    omega
  · subst b3 b4 b5 b6
    rw [nI_clamp (by omega), nI_clamp (by omega)]
    refine Or.inl ⟨Or.inr (Or.inr (Or.inr (Or.inl ⟨a1, b1, b2⟩))), by rw [a2, if_neg (by omega), a1]; rfl, fun _ => ⟨rfl, rfl⟩, fun _ => ⟨rfl, rfl⟩, a5⟩
  · refine Or.inl ⟨Or.inr (Or.inr (Or.inr (Or.inr a1))), by rw [a2, if_neg (by omega), a1]; rfl, fun z => ?_, fun z => ?_, a5⟩ <;> omega
  · exact Or.inr (Or.inl ⟨a1, a2, a5⟩)
  · have hop : opN cd e = true := by
      rcases r with ⟨r, -⟩ | ⟨-, r⟩
      · exact op_12 r
      · apply op_11
        rcases r with ⟨r, -⟩ | ⟨r, -⟩ | ⟨r, -⟩ | ⟨r, -⟩ <;> omega
    obtain ⟨o1, o2, o3, o4, o5⟩ := ho hop
    have hp : p = pr e := (nI_inj (by omega) (by omega)).mp (a4.symm.trans o1)
    subst hp
    rcases r with ⟨r1, r2, w, b1, b2, b3, b4⟩ | ⟨r1, r⟩
    · subst b3 b4
      rw [nI_clamp (n := w) (by omega)]
      exact Or.inr (Or.inr (Or.inl ⟨r1, r2, ⟨b1, b2⟩, ⟨rfl, rfl⟩, a5, a4⟩))
    · refine Or.inr (Or.inr (Or.inr ⟨r1, a5, a4, ?_⟩))
      rcases r with ⟨c1, c2, d, b1, b3, b4⟩ | ⟨c1, c2, d, q, b1, b2, b3, b4, b5, b6⟩ | ⟨c1, c2, g, c, b1, b2, b3, b4, b5, b6⟩ | ⟨c1, c2, s, c, b1, b2, b3, b4, b5, b6⟩
      · subst b3 b4
        rw [nI_clamp (n := d) (by omega)]
        exact Or.inl ⟨c1, c2, b1, rfl, rfl⟩
      · subst b3 b4 b5 b6
        rw [nI_clamp (n := d) (by omega), nI_clamp (n := q) (by omega)]
        exact Or.inr (Or.inl ⟨c1, c2, ⟨b1, b2⟩, ⟨rfl, rfl⟩, rfl, rfl⟩)
      · subst b3 b4 b5 b6
        rw [nI_clamp (n := g) (by omega), nI_clamp (n := c) (by omega)]
        exact Or.inr (Or.inr (Or.inl ⟨c1, c2, ⟨b1, b2⟩, ⟨rfl, rfl⟩, rfl, rfl⟩))
      · subst b3 b4 b5 b6
        rw [nI_clamp (n := s) (by omega), nI_clamp (n := c) (by omega)]
        exact Or.inr (Or.inr (Or.inr ⟨c1, c2, ⟨b1, b2⟩, ⟨rfl, rfl⟩, rfl, rfl⟩))
theorem feR_tb {n : Nat} {I : Nat → Nat → Int32} {c : Nat} (hn : n ≤ 7) (h : feR n I c 0) (h0 : ¬ I c 0 = 0) : ∃ N cd pr xa xb xc, tbR n N cd pr xa xb xc I c ∧ I c 1 = nI (ncN cd N) := by
  rcases h with ⟨z, -⟩ | ⟨g0, N, cd, pr, g1, g2, g3, g4, g5, g6, g7⟩
  · exact absurd z h0
  · simp only [Nat.zero_add] at g4 g5
    refine ⟨N, cd, pr, fun e => (I 115 (184 + 6 * e + 1)).toNatClampNeg, fun e => (I 115 (184 + 6 * e + 2)).toNatClampNeg, fun e => (I 115 (184 + 6 * e + 5)).toNatClampNeg, ⟨⟨g1, g2, fun e he z => ?_, fun e he z => ?_, g6, g7⟩, g4, fun e he => ?_, fun e he z => ?_⟩, g3⟩
    · obtain ⟨k1, k2, k3, k4⟩ := g5 e he
      exact ⟨(k3 z).1, (k3 z).2.1, (k3 z).2.2.1⟩
    · obtain ⟨k1, k2, k3, k4⟩ := g5 e he
      exact ((k4 (op_13 z)).2 z).2
    · obtain ⟨k1, k2, k3, k4⟩ := g5 e he
      exact ⟨k1, k2, fun z => (k3 z).2.2.2⟩
    · obtain ⟨k1, k2, k3, k4⟩ := g5 e he
      exact enR_of hn g1 (k4 z).1 (k4 z).2
theorem tbR.fr {n N : Nat} {cd pr xa xb xc : Nat → Nat} {I I' : Nat → Nat → Int32} {c : Nat} (h : tbR n N cd pr xa xb xc I c) (h1 : ∀ k j, c + 1 ≤ k → k ≤ c + 5 → I' k j = I k j) (h2 : ∀ j, j = 5 ∨ 184 ≤ j → I' 115 j = I 115 j) : tbR n N cd pr xa xb xc I' c := by
  obtain ⟨W, q5, qe, E⟩ := h
  refine ⟨W, (h2 5 (Or.inl rfl)).trans q5, fun e he => ?_, fun e he z => ?_⟩
  · rw [h2 _ (by omega), h2 _ (by omega)]
    exact qe e he
  · rw [h1 _ _ (by omega) (by omega), h1 _ _ (by omega) (by omega), h1 _ _ (by omega) (by omega), h1 _ _ (by omega) (by omega), h1 _ _ (by omega) (by omega), h2 _ (by omega), h2 _ (by omega), h2 _ (by omega), h2 _ (by omega)]
    exact E e he z
/-- a life as it begins -/
def ls0 (g : GM) (seed : Nat) : LvS := (g, seed, 0, 0, 0, 0, false, false)
theorem ls0_B {g : GM} {seed : Nat} (hb : bdG g) (hr : redN g.n g.f g.m) (hs : seed < 65536) : LsB g.n (ls0 g seed) := ⟨hb, hr, rfl, hs, Nat.zero_le _⟩
section LV
variable {l : Launch} {d N c : Nat} {cd pr xa xb xc : Nat → Nat} {S : aw_S} {g : GM} {seed : Nat}
theorem sp_lives {P : aw_S → Prop} (hR : RefsOk S.2.2) (Q : tbR g.n N cd pr xa xb xc S.1 c) (hb : bdG g) (hr : redN g.n g.f g.m) (hM : MdG S.1 0 g) (hs : seed < 65536) (k : ∀ lp T, LmR S lp T (bkF cd pr xa xb xc N 0 N (ls0 g seed)) → P T) : Sp l m_Md_lives (d + 9) 0 0 [.ref 114, .int (nI seed)] sh0 S (gV sh0 P) := by
  have key : ∀ j i T, i + j = 5 → FrI LmX S T → T.1 115 = S.1 115 → T.1 114 45 = nI seed → T.1 114 46 = 0 → (∀ q, q < i → T.1 141 q = 0) → AW l m_Md_lives (d + 9) 0 0 (gV sh0 P) 0 0 12 [.ref 114, .null, .int (nI i), .null] [] sh0 T := by
    intro j
    induction j with
    | zero =>
      intro i T hi F e115 e45 e46 e141
      have hi : i = 5 := hi
      subst hi
      refine s_Md_lives_12 rfl ⟨fun _ => ?_, fun z => absurd (by decide) z⟩
      have B := ls0_B hb hr hs
      have hRT : RefsOk T.2.2 := by rw [F.R]; exact hR
      have h : LmR S (T.1 140) T (ls0 g seed) := by
        refine ⟨F, ?_, ?_, e45, e46, ⟨e141 0 (by omega), e141 1 (by omega), e141 2 (by omega), e141 3 (by omega), e141 4 (by omega)⟩, rfl⟩
        · exact hM.fr hb.1 hb.2.2.2.2.1 (fun j _ => by rw [e115])
        · rw [e115]
          show _ = S.1 115 4 + nI 0 + nI 0
          rw [show nI 0 = (0 : Int32) from rfl, Int32.add_zero, Int32.add_zero]
      have hk : KB l d P S 0 N (T.1 140) (bkF cd pr xa xb xc N 0 N (ls0 g seed)) := fun lp' T' _ hT => ⟨fun _ => k lp' T' hT, fun _ => HK.fin (hT.rf hR) Q.1.1 ((hT.cell (Or.inl rfl)).trans Q.2.1) (k lp' T' hT)⟩
      by_cases c0 : 0 < N
      · exact (rf_block hR Q N 0 N (ls0 g seed) (T.1 140) T (WB.all Q.1) (by omega) B rfl h hk).2 c0
      · have c0 : N = 0 := by omega
        subst c0
        refine s_Md_lives_32 rfl ⟨115, hRT.at (by decide), 3864, rfl, vp_in_nI (n := 5) (by omega) (by omega), fun _ => k _ T h, fun z => absurd ?_ z⟩
        show T.1 115 5 ≤ 0
        rw [e115, Q.2.1]
        exact Int32.le_refl _
    | succ j ih =>
      intro i T hi F e115 e45 e46 e141
      have hRT : RefsOk T.2.2 := by rw [F.R]; exact hR
      refine s_Md_lives_12 rfl ⟨fun z => absurd ((nI_leI (a := 5) (by omega) (by omega)).mp z) (by omega), fun _ => ⟨141, hRT.at (by decide), 5, rfl, vp_in_nI (by omega) (by omega), ?_⟩⟩
      rw [nI_1, nI_clamp (by omega)]
      refine ih (i + 1) _ (by omega) (F.uI _ (Or.inr (Or.inr (Or.inr (Or.inr rfl))))) ?_ ?_ ?_ (fun q hq => ?_)
      · rw [uI_ne _ _ _ (by omega)]; exact e115
      · rw [uI_ne _ _ _ (by omega)]; exact e45
      · rw [uI_ne _ _ _ (by omega)]; exact e46
      · rw [uI_at, if_pos rfl]
        by_cases z : q = i
        · rw [if_pos z]
        · rw [if_neg z]; exact e141 q (by omega)
  refine e_Md_lives rfl (key 5 0 _ (by omega) ?_ ?_ ?_ ?_ (fun q hq => absurd hq (Nat.not_lt_zero q)))
  · exact ((FrI.refl _ S).uI _ (Or.inr (Or.inr (Or.inl ⟨rfl, Or.inl rfl⟩)))).uI _ (Or.inr (Or.inr (Or.inl ⟨rfl, Or.inr rfl⟩)))
  · rw [uI_ne _ _ _ (by omega), uI_ne _ _ _ (by omega)]
  · rw [uI_at, if_pos rfl, if_neg (by omega), uI_at, if_pos rfl, if_pos rfl]
  · rw [uI_at, if_pos rfl, if_pos rfl]
/-- the state behind begin -/
def bgS (S : aw_S) (a c : Nat) (v : Int32) : aw_S := aw_uI (aw_uI (aw_uI (aw_uI (aw_uI (aw_uR (aw_uR S 97 3 (some a)) 97 4 (some c)) 97 5 v) 97 0 0) 97 1 0) 97 2 0) 97 6 0
theorem bg_I (S : aw_S) (a c : Nat) (v : Int32) {k : Nat} (hk : k ≠ 97) : (bgS S a c v).1 k = S.1 k := by
  unfold bgS
  rw [uI_ne _ _ _ hk, uI_ne _ _ _ hk, uI_ne _ _ _ hk, uI_ne _ _ _ hk, uI_ne _ _ _ hk]
  rfl
theorem bg_R (S : aw_S) (a c : Nat) (v : Int32) {k : Nat} (hk : k ≠ 97) : (bgS S a c v).2.2 k = S.2.2 k := by
  show va_up (va_up S.2.2 97 (va_up (S.2.2 97) 3 (some a))) 97 _ k = S.2.2 k
  simp [va_up, hk]
theorem bg_3 (S : aw_S) (a c : Nat) (v : Int32) : (bgS S a c v).2.2 97 3 = some a := by
  show va_up (va_up S.2.2 97 (va_up (S.2.2 97) 3 (some a))) 97 (va_up (va_up S.2.2 97 (va_up (S.2.2 97) 3 (some a)) 97) 4 (some c)) 97 3 = some a
  simp [va_up]
theorem bg_4 (S : aw_S) (a c : Nat) (v : Int32) : (bgS S a c v).2.2 97 4 = some c := by
  show va_up (va_up S.2.2 97 (va_up (S.2.2 97) 3 (some a))) 97 (va_up (va_up S.2.2 97 (va_up (S.2.2 97) 3 (some a)) 97) 4 (some c)) 97 4 = some c
  simp [va_up]
theorem rf_97 {R R' : Nat → Nat → Option Nat} (h : RefsOk R) (e : ∀ k, k ≠ 97 → R' k = R k) : RefsOk R' := by
  have n : ∀ q ∈ rfT, q.1 ≠ 97 := by decide +kernel
  intro q hq
  rw [e _ (n q hq)]
  exact h q hq
theorem sp_lifeC {P : aw_S → Prop} {a : Nat} (hR : RefsOk S.2.2) (ha : a = 11 ∨ a = 26) (hc : c = 19 ∨ c = 34) (Q : tbR g.n N cd pr xa xb xc S.1 c) (hb : bdG g) (hr : redN g.n g.f g.m) (hG : GrG S.1 a g) (hs : seed < 65536) (k : ∀ S', LcR a (bgS S a c (nI seed)) S' (bkF cd pr xa xb xc N 0 N (ls0 g seed)) → P S') : Sp l m_Li_doBlock (d + 13) 0 0 [.ref 97, .int 0, .int (nI (ncN cd N)), .int 0] sh0 (bgS S a c (nI seed)) (gV sh0 P) := by
  have hR0 : RefsOk (bgS S a c (nI seed)).2.2 := rf_97 hR (fun k hk => bg_R S a c _ hk)
  have Q0 : tbR g.n N cd pr xa xb xc (bgS S a c (nI seed)).1 c := Q.fr (fun k j h1 h2 => by rw [bg_I S a c _ (by omega)]) (fun j _ => by rw [bg_I S a c _ (by omega)])
  have h0 : LcR a (bgS S a c (nI seed)) (bgS S a c (nI seed)) (ls0 g seed) := by
    refine ⟨FrI.refl _ _, hG.fr (fun k h1 h2 => bg_I S a c _ (by omega)), ⟨(Int32.add_zero _).symm, (Int32.add_zero _).symm⟩, ?_, ?_, ?_, ?_, ?_⟩
    all_goals (unfold bgS; simp only [uI_at]; rfl)
  exact e_Li_doBlock rfl (sp_block hR0 (bg_3 S a c _) (bg_4 S a c _) ha hc Q0.1 Q0.2.2.2 N 0 N 0 (d + 6) (ls0 g seed) _ P (WB.all Q0.1) (by omega) (by omega) (by omega) (fun e _ _ z => z) (ls0_B hb hr hs) h0 k)
end LV
