/-! a life: the class does a block -/
theorem LcR.set {a : Nat} {S0 S : aw_S} {s : LvS} {j : Nat} {v : Int32} {s' : LvS} (h : LcR a S0 S s) (ha : a = 11 ∨ a = 26) (hg : s'.g = s.g) (hc : s'.ci = s.ci) (ho : s'.co = s.co) (h5 : (if 5 = j then v else S.1 97 5) = nI s'.dr) (h0 : (if 0 = j then v else S.1 97 0) = nI s'.st) (h1 : (if 1 = j then v else S.1 97 1) = nI s'.ms) (h6 : (if 6 = j then v else S.1 97 6) = bI s'.hl) (h2 : (if 2 = j then v else S.1 97 2) = bI s'.lf) : LcR a S0 (aw_uI S 97 j v) s' := by
  obtain ⟨g1, g2, ⟨g3, g4⟩, g5, g6, g7, g8, g9⟩ := h
  refine ⟨g1.uI _ (Or.inr (Or.inr rfl)), ?_, ?_, ?_, ?_, ?_, ?_, ?_⟩
  · rw [hg]; exact g2.fr (fun c q1 q2 => uI_ne _ _ _ (by omega))
  · rw [uI_ne _ _ _ (by omega), hc, ho]; exact ⟨g3, g4⟩
  · rw [uI_at, if_pos rfl]; exact h5
  · rw [uI_at, if_pos rfl]; exact h0
  · rw [uI_at, if_pos rfl]; exact h1
  · rw [uI_at, if_pos rfl]; exact h6
  · rw [uI_at, if_pos rfl]; exact h2
section DS
variable {l : Launch} {d a n c i : Nat} {S0 S : aw_S} {s : LvS}
theorem sp_stepC {P : aw_S → Prop} {op x1 x2 : Nat} {kd fs sd dep : Int32} (hR : RefsOk S0.2.2) (h3r : S0.2.2 97 3 = some a) (h4r : S0.2.2 97 4 = some c) (ha : a = 11 ∨ a = 26) (hc : c = 19 ∨ c = 34) (hi : i < 30) (B : LsB n s) (h : LcR a S0 S s) (ho : opOk n op x1 x2) (e1 : S.1 (c + 1) i = kd) (e3 : S.1 (c + 3) i = fs) (e4 : S.1 (c + 4) i = sd) (hk : kd = (if op = 3 then 4 else nI op)) (hf : (op = 3 ∨ op = 8 ∨ op = 9) → fs = nI x1) (hs : (op = 3 ∨ op = 9) → sd = nI x2) (k : ∀ S', LcR a S0 S' (msS (stQ op x1 x2 s)) → P S') : Sp l m_Li_doStep (d + 6) 0 0 [.ref 97, .int (nI i), .int dep] sh0 S (gV sh0 P) := by
  have hF : FeS sh0 S.2.2 c := FeS.mk0 (by rw [h.1.R]; exact hR) (by omega)
  have hS : GrS sh0 S.2.2 a := GrS.mk0 (by rw [h.1.R]; exact hR) (by omega)
  have r3 : S.2.2 97 3 = some a := by rw [h.1.R]; exact h3r
  have r4 : S.2.2 97 4 = some c := by rw [h.1.R]; exact h4r
  obtain ⟨f1, ⟨f2, f3, f4, f5, f6⟩, s1, s2, s3, s4, s5⟩ := hF
  have hv : vp_in (nI i) 30 := vp_in_nI (by omega) (by omega)
  refine e_Li_doStep rfl ⟨c, r4, f1, c + 3, f4, 30, s3, hv, c + 4, f5, 30, s4, hv, c + 1, f2, 30, s1, hv, ?_⟩
  rw [nI_clamp (by omega), e1, e3, e4]
  rcases ho with ⟨o1, o2, o3⟩ | o1 | ⟨o1, o2⟩ | ⟨o1, o2, o3⟩ | o1
  · subst o1
    have hk : kd = 4 := hk
    have hf := hf (Or.inl rfl)
    have hs := hs (Or.inl rfl)
    subst hk hf hs
    have es : stQ 3 x1 x2 s = psP s x1 x2 := rfl
    rw [es] at k
    refine ⟨fun q => absurd q (by decide), fun _ => ⟨a, r3, hS.sa, ?_⟩, fun q => absurd q (by decide), fun q => absurd q (by decide), fun q => absurd q (by decide), fun q => absurd q (by decide), fun q => absurd q (by decide), fun q => absurd q (by decide), fun q => absurd q (by decide), fun q => absurd q (by decide), fun q => absurd q (by decide), fun q => absurd q (by decide), fun q => absurd q (by decide), fun q => absurd q (by decide)⟩
    rw [show (2 : Int32) * nI x1 = nI (2 * x1) by rw [show (2 : Int32) = nI 2 from rfl, pk_mul], nI_add]
    refine sp_passC hR ha B h o2 o3 (fun v S' e hS' => ⟨fun z => ?_, fun z => ?_⟩)
    · exact sp_count hS' ha ⟨fun _ => e.mp z, fun _ => rfl⟩ k
    · exact sp_count hS' ha ⟨fun y => absurd y (by decide), fun y => absurd (e.mpr y) z⟩ k
  · subst o1
    have hk : kd = 7 := hk
    subst hk
    have es : stQ 7 x1 x2 s = bkP s := rfl
    rw [es] at k
    refine ⟨fun q => absurd q (by decide), fun q => absurd q (by decide), fun q => absurd q (by decide), fun q => absurd q (by decide), fun _ => ⟨a, r3, hS.sa, ?_⟩, fun q => absurd q (by decide), fun q => absurd q (by decide), fun q => absurd q (by decide), fun q => absurd q (by decide), fun q => absurd q (by decide), fun q => absurd q (by decide), fun q => absurd q (by decide), fun q => absurd q (by decide), fun q => absurd q (by decide)⟩
    exact sp_backC hR ha B h (fun v S' e hS' => sp_count hS' ha e k)
  · subst o1
    have hk : kd = 8 := hk
    have hf := hf (Or.inr (Or.inl rfl))
    subst hk hf
    have es : stQ 8 x1 x2 s = wvQ s x1 := rfl
    rw [es] at k
    refine ⟨fun q => absurd q (by decide), fun q => absurd q (by decide), fun q => absurd q (by decide), fun q => absurd q (by decide), fun q => absurd q (by decide), fun _ => ⟨a, r3, hS.sa, ?_⟩, fun q => absurd q (by decide), fun q => absurd q (by decide), fun q => absurd q (by decide), fun q => absurd q (by decide), fun q => absurd q (by decide), fun q => absurd q (by decide), fun q => absurd q (by decide), fun q => absurd q (by decide)⟩
    refine sp_weaveC hR ha B h o2 (fun v S' e hS' => two_c e (fun w hw => sp_count hS' ha hw k))
  · subst o1
    have hk : kd = 9 := hk
    have hf := hf (Or.inr (Or.inr rfl))
    have hs := hs (Or.inr rfl)
    subst hk hf hs
    have es : stQ 9 x1 x2 s = ptP s x1 x2 := rfl
    rw [es] at k
    refine ⟨fun q => absurd q (by decide), fun q => absurd q (by decide), fun q => absurd q (by decide), fun q => absurd q (by decide), fun q => absurd q (by decide), fun q => absurd q (by decide), fun _ => ?_, fun q => absurd q (by decide), fun q => absurd q (by decide), fun q => absurd q (by decide), fun q => absurd q (by decide), fun q => absurd q (by decide), fun q => absurd q (by decide), fun q => absurd q (by decide)⟩
    exact sp_repaintC hR h3r ha B h o2 o3 (fun v S' e hS' => sp_count hS' ha e k)
  · subst o1
    have hk : kd = 10 := hk
    subst hk
    have es : stQ 10 x1 x2 s = anP s := rfl
    rw [es] at k
    refine ⟨fun q => absurd q (by decide), fun q => absurd q (by decide), fun q => absurd q (by decide), fun q => absurd q (by decide), fun q => absurd q (by decide), fun q => absurd q (by decide), fun q => absurd q (by decide), fun _ => ?_, fun q => absurd q (by decide), fun q => absurd q (by decide), fun q => absurd q (by decide), fun q => absurd q (by decide), fun q => absurd q (by decide), fun q => absurd q (by decide)⟩
    exact sp_passAny hR h3r ha B h (fun v S' e hS' => sp_count hS' ha e k)
theorem sp_stopC {P : aw_S → Prop} {dep : Int32} (hR : RefsOk S0.2.2) (h4r : S0.2.2 97 4 = some c) (hc : c = 19 ∨ c = 34) (hi : i < 30) (h : LcR a S0 S s) (e1 : S.1 (c + 1) i = 18) (k : P (aw_uI S 97 6 1)) : Sp l m_Li_doStep (d + 1) 0 0 [.ref 97, .int (nI i), .int dep] sh0 S (gV sh0 P) := by
  have hF : FeS sh0 S.2.2 c := FeS.mk0 (by rw [h.1.R]; exact hR) (by omega)
  have r4 : S.2.2 97 4 = some c := by rw [h.1.R]; exact h4r
  obtain ⟨f1, ⟨f2, f3, f4, f5, f6⟩, s1, s2, s3, s4, s5⟩ := hF
  have hv : vp_in (nI i) 30 := vp_in_nI (by omega) (by omega)
  refine e_Li_doStep rfl ⟨c, r4, f1, c + 3, f4, 30, s3, hv, c + 4, f5, 30, s4, hv, c + 1, f2, 30, s1, hv, ?_⟩
  rw [nI_clamp (by omega), e1]
  exact ⟨fun _ => k, fun q => absurd q (by decide), fun q => absurd q (by decide), fun q => absurd q (by decide), fun q => absurd q (by decide), fun q => absurd q (by decide), fun q => absurd q (by decide), fun q => absurd q (by decide), fun q => absurd q (by decide), fun q => absurd q (by decide), fun q => absurd q (by decide), fun q => absurd q (by decide), fun q => absurd q (by decide), fun q => absurd q (by decide)⟩
theorem sp_whenC {P : aw_S → Prop} {cc x1 x2 x5 p : Nat} {ts fs sd y1 y2 y5 : Int32} {dep : Nat} (hR : RefsOk S0.2.2) (h3r : S0.2.2 97 3 = some a) (h4r : S0.2.2 97 4 = some c) (ha : a = 11 ∨ a = 26) (hc : c = 19 ∨ c = 34) (hi : i < 30) (B : LsB n s) (h : LcR a S0 S s) (hh : hdR n cc x1 x2 x5 ts fs sd y1 y2 y5) (e1 : S.1 (c + 1) i = 11) (e2 : S.1 (c + 2) i = ts) (e3 : S.1 (c + 3) i = fs) (e4 : S.1 (c + 4) i = sd) (e5 : S.1 (c + 5) i = nI p) (k0 : hdP cc x1 x2 x5 s.g = false → P S) (k1 : hdP cc x1 x2 x5 s.g = true → Sp l m_Li_doBlock (d + 5) 0 0 [.ref 97, .int (nI (i + 1)), .int (nI p), .int (nI (dep + 1))] sh0 S (gV sh0 P)) : Sp l m_Li_doStep (d + 6) 0 0 [.ref 97, .int (nI i), .int (nI dep)] sh0 S (gV sh0 P) := by
  have hF : FeS sh0 S.2.2 c := FeS.mk0 (by rw [h.1.R]; exact hR) (by omega)
  have r4 : S.2.2 97 4 = some c := by rw [h.1.R]; exact h4r
  obtain ⟨f1, ⟨f2, f3, f4, f5, f6⟩, s1, s2, s3, s4, s5⟩ := hF
  have hv : vp_in (nI i) 30 := vp_in_nI (by omega) (by omega)
  refine e_Li_doStep rfl ⟨c, r4, f1, c + 3, f4, 30, s3, hv, c + 4, f5, 30, s4, hv, c + 1, f2, 30, s1, hv, ?_⟩
  rw [nI_clamp (by omega), e1, e3, e4]
  refine ⟨fun q => absurd q (by decide), fun q => absurd q (by decide), fun q => absurd q (by decide), fun q => absurd q (by decide), fun q => absurd q (by decide), fun q => absurd q (by decide), fun q => absurd q (by decide), fun q => absurd q (by decide), fun _ => ⟨c + 2, f3, 30, s2, hv, ?_⟩, fun q => absurd q (by decide), fun q => absurd q (by decide), fun q => absurd q (by decide), fun q => absurd q (by decide), fun q => absurd q (by decide)⟩
  rw [e2]
  refine sp_holdsC hR h3r ha B h hh (fun v hv2 => ⟨fun z => k0 (hv2.mp z), fun z => ⟨c, r4, f1, c + 5, f6, 30, s5, hv, ?_⟩⟩)
  rw [e5, nI_1, nI_1]
  refine k1 ?_
  cases q : hdP cc x1 x2 x5 s.g with
  | true => rfl
  | false => exact absurd (hv2.mpr q) z
theorem sp_loopC {P : aw_S → Prop} {x1 : Nat} {dep : Int32} (hR : RefsOk S0.2.2) (h4r : S0.2.2 97 4 = some c) (hc : c = 19 ∨ c = 34) (hi : i < 30) (h : LcR a S0 S s) (e1 : S.1 (c + 1) i = 16) (e3 : S.1 (c + 3) i = nI x1) (k : AW l m_Li_doStep (d + 1) 0 0 (gV sh0 P) 0 0 231 [.ref 97, .int (nI i), .int dep, .int (nI x1), .null, .int 0] [] sh0 S) : Sp l m_Li_doStep (d + 1) 0 0 [.ref 97, .int (nI i), .int dep] sh0 S (gV sh0 P) := by
  have hF : FeS sh0 S.2.2 c := FeS.mk0 (by rw [h.1.R]; exact hR) (by omega)
  have r4 : S.2.2 97 4 = some c := by rw [h.1.R]; exact h4r
  obtain ⟨f1, ⟨f2, f3, f4, f5, f6⟩, s1, s2, s3, s4, s5⟩ := hF
  have hv : vp_in (nI i) 30 := vp_in_nI (by omega) (by omega)
  refine e_Li_doStep rfl ⟨c, r4, f1, c + 3, f4, 30, s3, hv, c + 4, f5, 30, s4, hv, c + 1, f2, 30, s1, hv, ?_⟩
  rw [nI_clamp (by omega), e1, e3]
  exact ⟨fun q => absurd q (by decide), fun q => absurd q (by decide), fun q => absurd q (by decide), fun q => absurd q (by decide), fun q => absurd q (by decide), fun q => absurd q (by decide), fun q => absurd q (by decide), fun q => absurd q (by decide), fun q => absurd q (by decide), fun q => absurd q (by decide), fun q => absurd q (by decide), fun q => absurd q (by decide), fun q => absurd q (by decide), fun _ => k⟩
end DS
theorem sp_blk3 {l : Launch} {d : Nat} {S : aw_S} {G : aw_G} {x x' y y' z z' : Int32} (h1 : x = x') (h2 : y = y') (h3 : z = z') (h : Sp l m_Li_doBlock d 0 0 [.ref 97, .int x', .int y', .int z'] sh0 S G) : Sp l m_Li_doBlock d 0 0 [.ref 97, .int x, .int y, .int z] sh0 S G := by
  subst h1 h2 h3
  exact h
section BLK
variable {l : Launch} {a n N c : Nat} {cd pr xa xb xc : Nat → Nat} {S0 : aw_S}
theorem LcR.cell {S : aw_S} {s : LvS} (h : LcR a S0 S s) (ha : a = 11 ∨ a = 26) (hc : c = 19 ∨ c = 34) {k j : Nat} (hk : 1 ≤ k) (hk5 : k ≤ 5) : S.1 (c + k) j = S0.1 (c + k) j := h.1.1 _ _ (by unfold LcX GX; omega)
theorem sp_block (hR : RefsOk S0.2.2) (h3r : S0.2.2 97 3 = some a) (h4r : S0.2.2 97 4 = some c) (ha : a = 11 ∨ a = 26) (hc : c = 19 ∨ c = 34) (W : WfP N cd pr) (E : enA n N cd pr xa xb xc S0.1 c) : ∀ f b t dep q s S (P : aw_S → Prop), WB N cd pr b t → t - b ≤ f → dep ≤ 3 → 2 * (3 - dep) ≤ q → (∀ e, b ≤ e → e < t → opN cd e = true → dpC cd pr dep e) → LsB n s → LcR a S0 S s → (∀ S', LcR a S0 S' (bkF cd pr xa xb xc f b t s) → P S') → AW l m_Li_doBlock (q + 7) 0 0 (gV sh0 P) 0 0 3 [.ref 97, .null, .int (nI (ncN cd t)), .int (nI dep), .int (nI (ncN cd b))] [] sh0 S := by
  intro f
  induction f with
  | zero =>
    intro b t dep q s S P w hf _ _ _ _ h k
    have : b = t := by have := w.1; omega
    subst this
    exact s_Li_doBlock_3 rfl ⟨fun _ => k S h, fun z => absurd (Int32.le_refl _) z⟩
  | succ f ih =>
    intro b t dep q s S P w hf hd hq hD B h k
    have hN := w.2.1
    have h60 := W.1
    have n30 := W.2.1
    have t30 : ncN cd t ≤ 30 := Nat.le_trans (nc_mono cd hN) W.2.1
    by_cases hb : b < t
    · have hne := w.ne W hb
      have i1 := nc_1 hne
      have i2 := nc_mono cd (show b + 1 ≤ t from hb)
      have hi : ncN cd b < 30 := by omega
      have e := E b (by omega) hne
      have hF : FeS sh0 S0.2.2 c := FeS.mk0 hR (by omega)
      obtain ⟨f1, ⟨f2, f3, f4, f5, f6⟩, s1, s2, s3, s4, s5⟩ := hF
      have hv : vp_in (nI (ncN cd b)) 30 := vp_in_nI (by omega) (by omega)
      have cc : ∀ {T : aw_S} {s' : LvS}, LcR a S0 T s' → ∀ j, 1 ≤ j → j ≤ 5 → T.1 (c + j) (ncN cd b) = S0.1 (c + j) (ncN cd b) := fun hT j q1 q2 => hT.cell ha hc q1 q2
      refine s_Li_doBlock_3 rfl ⟨fun z => absurd ((nI_leI (by omega) (by omega)).mp z) (by omega), fun _ => ⟨fun z => k S ?_, fun z => ?_⟩⟩
      · have hl : s.hl = true := (bI_1 _).mp (by rw [← h.2.2.2.2.2.2.1]; exact z)
        rw [bkF_hl hl]
        exact h
      · have hl : s.hl = false := (bI_0 _).mp (by rw [← h.2.2.2.2.2.2.1]; exact z)
        have hx : ¬ (t ≤ b ∨ s.hl = true) := fun y => y.elim (fun y => by omega) (fun y => by rw [hl] at y; exact absurd y (by decide))
        have hst := B.2.2.2.2
        have h6 := h.2.2.2.2.1
        have hlt : ∀ (T : aw_S) (s' : LvS) (x : Int32), LcR a S0 T s' → s'.hl = true → P T → AW l m_Li_doBlock (q + 7) 0 0 (gV sh0 P) 0 0 3 [.ref 97, .null, .int (nI (ncN cd t)), .int (nI dep), .int x] [] sh0 T := by
          intro T s' x hT hl' hP
          refine s_Li_doBlock_3 rfl ⟨fun _ => hP, fun _ => ⟨fun _ => hP, fun y => ?_⟩⟩
          rw [hT.2.2.2.2.2.2.1, hl'] at y
          exact absurd y (by decide)
        rw [h6]
        refine ⟨fun y => ?_, fun y => ⟨fun _ => ?_, fun y2 => absurd (nI_le (b := 3) hd (by omega)) y2⟩⟩
        · have y : 300 ≤ s.st := (nI_leI (a := 300) (by omega) (by omega)).mp y
          have eb : bkF cd pr xa xb xc (f + 1) b t s = lfS s := by
            unfold bkF
            rw [if_neg hx, if_pos y]
          rw [eb] at k
          have hT1 : LcR a S0 (aw_uI S 97 2 1) (s.g, s.dr, s.st, s.ms, s.ci, s.co, s.hl, true) := h.set ha rfl rfl rfl h.2.2.2.1 h6 h.2.2.2.2.2.1 h.2.2.2.2.2.2.1 rfl
          have hT2 : LcR a S0 (aw_uI (aw_uI S 97 2 1) 97 6 1) (lfS s) := hT1.set ha rfl rfl rfl hT1.2.2.2.1 hT1.2.2.2.2.1 hT1.2.2.2.2.2.1 rfl hT1.2.2.2.2.2.2.2
          refine ⟨c, (congrFun (congrFun hT2.1.R 97) 4).trans h4r, f1, c + 5, (congrFun (congrFun hT2.1.R c) 6).trans f6, 30, s5, hv, e_Ma_max ?_⟩
          exact ⟨fun _ => hlt _ _ _ hT2 rfl (k _ hT2), fun _ => hlt _ _ _ hT2 rfl (k _ hT2)⟩
        · have y : s.st < 300 := by
            have : ¬ 300 ≤ s.st := fun z => y (nI_le (a := 300) z (by omega))
            omega
          have B1 : LsB n (up1 s) := B.up y
          have hU : LcR a S0 (aw_uI S 97 0 (nI s.st + 1)) (up1 s) := h.set ha rfl rfl rfl h.2.2.2.1 (nI_1 _) h.2.2.2.2.2.1 h.2.2.2.2.2.2.1 h.2.2.2.2.2.2.2
          have eb : bkF cd pr xa xb xc (f + 1) b t s = (if cd b = 14 then haS (up1 s) else if cd b = 12 then bkF cd pr xa xb xc f (pr b + 1) t (itF (bkF cd pr xa xb xc f (b + 1) (pr b)) (xa b) (up1 s)) else if 1100 ≤ cd b then bkF cd pr xa xb xc f (pr b + 1) t (if hdP (cd b) (xa b) (xb b) (xc b) s.g = true then bkF cd pr xa xb xc f (b + 1) (pr b) (up1 s) else up1 s) else bkF cd pr xa xb xc f (b + 1) t (msS (stQ (cd b) (xa b) (xb b) (up1 s)))) := by
            rw [bkF, if_neg hx, if_neg (by omega)]
          rw [eb] at k
          have nxt : ∀ (T : aw_S) (s' : LvS) (p : Nat), LcR a S0 T s' → S0.1 (c + 5) (ncN cd b) = nI p → ncN cd b + 1 ≤ p → p < 100 → AW l m_Li_doBlock (q + 7) 0 0 (gV sh0 P) 0 0 3 [.ref 97, .null, .int (nI (ncN cd t)), .int (nI dep), .int (nI p)] [] sh0 T → ∃ r14, T.2.2 97 4 = some r14 ∧ sh0[r14]? = some (0, 4) ∧ ∃ r16, T.2.2 r14 6 = some r16 ∧ ∃ n18, sh0[r16]? = some (3, n18) ∧ vp_in (nI (ncN cd b)) n18 ∧ Sp l m_Ma_max (q + 6) 0 0 [.int (nI (ncN cd b) + (1 : Int32)), .int (T.1 r16 (nI (ncN cd b)).toNatClampNeg)] sh0 T (gI sh0 (fun x21 S20 => AW l m_Li_doBlock (q + 7) 0 0 (gV sh0 P) 0 0 3 [.ref 97, .null, .int (nI (ncN cd t)), .int (nI dep), .int x21] [] sh0 S20)) := by
            intro T s' p hT e5 hp hp2 g
            refine ⟨c, (congrFun (congrFun hT.1.R 97) 4).trans h4r, f1, c + 5, (congrFun (congrFun hT.1.R c) 6).trans f6, 30, s5, hv, ?_⟩
            rw [nI_clamp (by omega), nI_1, cc hT 5 (by omega) (by omega), e5]
            refine sp_maxN (by omega) (by omega) ?_
            rw [Nat.max_eq_right hp]
            exact g
          by_cases c14 : cd b = 14
          · rw [if_pos c14] at k
            obtain ⟨k1, k2⟩ := e.t14 c14
            refine sp_stopC hR h4r hc hi hU ((cc hU 1 (by omega) (by omega)).trans k1) ?_
            have hT : LcR a S0 (aw_uI (aw_uI S 97 0 (nI s.st + 1)) 97 6 1) (haS (up1 s)) := hU.set ha rfl rfl rfl hU.2.2.2.1 hU.2.2.2.2.1 hU.2.2.2.2.2.1 rfl hU.2.2.2.2.2.2.2
            exact nxt _ _ _ hT k2 (Nat.le_refl _) (by omega) (hlt _ _ _ hT rfl (k _ hT))
          · rw [if_neg c14] at k
            by_cases c12 : cd b = 12
            · rw [if_pos c12] at k
              have ho := op_12 c12
              obtain ⟨k1, ⟨k2, k2'⟩, ⟨k3, -⟩, k4, -⟩ := e.t12 c12
              obtain ⟨w1, w2, w3, w4⟩ := W.2.2.2.1 b (by omega) ho
              have pt := w.2.2.2 b (Nat.le_refl _) hb ho
              have hsub := w.sub W hb ho
              have hdep : dep < 3 := by
                have := hD b (Nat.le_refl _) hb ho
                apply Classical.byContradiction
                intro z
                have z : dep = 3 := by omega
                rw [z] at this
                exact dp_3 W (by omega) this
              obtain ⟨q', rfl⟩ : ∃ q', q = q' + 2 := ⟨q - 2, by omega⟩
              have n1 := nc_mono cd (show b + 1 ≤ pr b from w1)
              have n2 := nc_mono cd (show pr b ≤ N by omega)
              refine sp_loopC hR h4r hc hi hU ((cc hU 1 (by omega) (by omega)).trans k1) ((cc hU 3 (by omega) (by omega)).trans k3) ?_
              have fin : ∀ T, LcR a S0 T (itF (bkF cd pr xa xb xc f (b + 1) (pr b)) (xa b) (up1 s)) → ∃ r14, T.2.2 97 4 = some r14 ∧ sh0[r14]? = some (0, 4) ∧ ∃ r16, T.2.2 r14 6 = some r16 ∧ ∃ n18, sh0[r16]? = some (3, n18) ∧ vp_in (nI (ncN cd b)) n18 ∧ Sp l m_Ma_max (q' + 2 + 6) 0 0 [.int (nI (ncN cd b) + (1 : Int32)), .int (T.1 r16 (nI (ncN cd b)).toNatClampNeg)] sh0 T (gI sh0 (fun x21 S20 => AW l m_Li_doBlock (q' + 2 + 7) 0 0 (gV sh0 P) 0 0 3 [.ref 97, .null, .int (nI (ncN cd t)), .int (nI dep), .int x21] [] sh0 S20)) := by
                intro T hT
                refine nxt T _ _ hT k4 (by omega) (by omega) ?_
                rw [← nc_0 w3]
                exact ih (pr b + 1) t dep (q' + 2) _ T P (w.rest W hb ho) (by omega) hd hq (fun e' q1 q2 q3 => hD e' (by omega) q2 q3) (it_B (fun s' B' => bkF_B W E f _ _ s' hsub B') _ _ B1) hT k
              have lp : ∀ j r T s', r + j = xa b → LsB n s' → LcR a S0 T s' → itF (bkF cd pr xa xb xc f (b + 1) (pr b)) j s' = itF (bkF cd pr xa xb xc f (b + 1) (pr b)) (xa b) (up1 s) → AW l m_Li_doStep (q' + 2 + 6) 0 0 (gV sh0 (fun S13 => ∃ r14, S13.2.2 97 4 = some r14 ∧ sh0[r14]? = some (0, 4) ∧ ∃ r16, S13.2.2 r14 6 = some r16 ∧ ∃ n18, sh0[r16]? = some (3, n18) ∧ vp_in (nI (ncN cd b)) n18 ∧ Sp l m_Ma_max (q' + 2 + 6) 0 0 [.int (nI (ncN cd b) + (1 : Int32)), .int (S13.1 r16 (nI (ncN cd b)).toNatClampNeg)] sh0 S13 (gI sh0 (fun x21 S20 => AW l m_Li_doBlock (q' + 2 + 7) 0 0 (gV sh0 P) 0 0 3 [.ref 97, .null, .int (nI (ncN cd t)), .int (nI dep), .int x21] [] sh0 S20)))) 0 0 231 [.ref 97, .int (nI (ncN cd b)), .int (nI dep), .int (nI (xa b)), .null, .int (nI r)] [] sh0 T := by
                intro j
                induction j with
                | zero =>
                  intro r T s' hr B' hT ei
                  refine s_Li_doStep_231 rfl ⟨fun _ => fin T (by rw [← ei]; exact hT), fun z => absurd (nI_le (show xa b ≤ r by omega) (by omega)) z⟩
                | succ j ihj =>
                  intro r T s' hr B' hT ei
                  refine s_Li_doStep_231 rfl ⟨fun z => absurd ((nI_leI (by omega) (by omega)).mp z) (by omega), fun _ => ⟨fun z => ?_, fun z => ?_⟩⟩
                  · have hl' : s'.hl = true := (bI_1 _).mp (by rw [← hT.2.2.2.2.2.2.1]; exact z)
                    rw [itF, if_pos hl'] at ei
                    exact fin T (by rw [← ei]; exact hT)
                  · have hl' : s'.hl = false := (bI_0 _).mp (by rw [← hT.2.2.2.2.2.2.1]; exact z)
                    rw [itF, if_neg (by rw [hl']; decide)] at ei
                    refine ⟨c, (congrFun (congrFun hT.1.R 97) 4).trans h4r, f1, c + 5, (congrFun (congrFun hT.1.R c) 6).trans f6, 30, s5, hv, ?_⟩
                    refine sp_blk3 (x' := nI (ncN cd (b + 1))) (y' := nI (ncN cd (pr b))) (z' := nI (dep + 1)) (by rw [i1, nI_1]) (by rw [nI_clamp (by omega), cc hT 5 (by omega) (by omega), k4]) (nI_1 _) (e_Li_doBlock rfl (ih (b + 1) (pr b) (dep + 1) q' s' T _ hsub (by omega) (by omega) (by omega) (fun e' q1 q2 q3 => ⟨q3, b, by omega, q2, hD b (Nat.le_refl _) hb ho⟩) B' hT (fun T' hT' => ?_)))
                    have fn := ihj (r + 1) T' _ (by omega) (bkF_B W E f _ _ s' hsub B') hT' ei
                    rw [← nI_1 r] at fn
                    exact fn
              exact lp (xa b) 0 _ _ (by omega) B1 hU rfl
            · rw [if_neg c12] at k
              by_cases c11 : 1100 ≤ cd b
              · rw [if_pos c11] at k
                have ho := op_11 c11
                obtain ⟨k1, k4, -, k5⟩ := e.t11 c11
                obtain ⟨w1, w2, w3, w4⟩ := W.2.2.2.1 b (by omega) ho
                have pt := w.2.2.2 b (Nat.le_refl _) hb ho
                have hsub := w.sub W hb ho
                have hdep : dep < 3 := by
                  have := hD b (Nat.le_refl _) hb ho
                  apply Classical.byContradiction
                  intro z
                  have z : dep = 3 := by omega
                  rw [z] at this
                  exact dp_3 W (by omega) this
                obtain ⟨q', rfl⟩ : ∃ q', q = q' + 2 := ⟨q - 2, by omega⟩
                have n1 := nc_mono cd (show b + 1 ≤ pr b from w1)
                have n2 := nc_mono cd (show pr b ≤ N by omega)
                have rst : ∀ T s', LsB n s' → LcR a S0 T s' → (∀ S', LcR a S0 S' (bkF cd pr xa xb xc f (pr b + 1) t s') → P S') → ∃ r14, T.2.2 97 4 = some r14 ∧ sh0[r14]? = some (0, 4) ∧ ∃ r16, T.2.2 r14 6 = some r16 ∧ ∃ n18, sh0[r16]? = some (3, n18) ∧ vp_in (nI (ncN cd b)) n18 ∧ Sp l m_Ma_max (q' + 2 + 6) 0 0 [.int (nI (ncN cd b) + (1 : Int32)), .int (T.1 r16 (nI (ncN cd b)).toNatClampNeg)] sh0 T (gI sh0 (fun x21 S20 => AW l m_Li_doBlock (q' + 2 + 7) 0 0 (gV sh0 P) 0 0 3 [.ref 97, .null, .int (nI (ncN cd t)), .int (nI dep), .int x21] [] sh0 S20)) := by
                  intro T s' B' hT kk
                  refine nxt T _ _ hT k4 (by omega) (by omega) ?_
                  rw [← nc_0 w3]
                  exact ih (pr b + 1) t dep (q' + 2) _ T P (w.rest W hb ho) (by omega) hd hq (fun e' q1 q2 q3 => hD e' (by omega) q2 q3) B' hT kk
                refine sp_whenC (d := q' + 2) hR h3r h4r ha hc hi B1 hU k5 ((cc hU 1 (by omega) (by omega)).trans k1) (cc hU 2 (by omega) (by omega)) (cc hU 3 (by omega) (by omega)) (cc hU 4 (by omega) (by omega)) ((cc hU 5 (by omega) (by omega)).trans k4) (fun hh => ?_) (fun hh => ?_)
                · have hh : hdP (cd b) (xa b) (xb b) (xc b) s.g = false := hh
                  rw [if_neg (by rw [hh]; decide)] at k
                  exact rst _ _ B1 hU k
                · have hh : hdP (cd b) (xa b) (xb b) (xc b) s.g = true := hh
                  rw [if_pos hh] at k
                  rw [← i1]
                  refine e_Li_doBlock rfl (ih (b + 1) (pr b) (dep + 1) q' _ _ _ hsub (by omega) (by omega) (by omega) (fun e' q1 q2 q3 => ⟨q3, b, by omega, q2, hD b (Nat.le_refl _) hb ho⟩) B1 hU (fun T' hT' => ?_))
                  exact rst T' _ (bkF_B W E f _ _ _ hsub B1) hT' k
              · rw [if_neg c11] at k
                obtain ⟨k1, k2, k3, k4, k5⟩ := e.ty c14 c12 c11
                refine sp_stepC (d := q) hR h3r h4r ha hc hi B1 hU k1 (cc hU 1 (by omega) (by omega)) (cc hU 3 (by omega) (by omega)) (cc hU 4 (by omega) (by omega)) k2 (fun z => (k3 z).1) (fun z => (k4 z).1) (fun T hT => ?_)
                refine nxt T _ _ hT k5 (Nat.le_refl _) (by omega) ?_
                rw [← i1]
                exact ih (b + 1) t dep q _ T P (w.next W hb (op_no c12 c11)) (by omega) hd hq (fun e' q1 q2 q3 => hD e' (by omega) q2 q3) (LsB.ms1 (B1.st1 k1)) hT k
    · have : b = t := by have := w.1; omega
      subst this
      refine s_Li_doBlock_3 rfl ⟨fun _ => k S ?_, fun z => absurd (Int32.le_refl _) z⟩
      rw [bkF_end]
      exact h
end BLK
