/-! green: the call -/
theorem tape_ok {S : aw_S} (h : Inv S) : ∃ tp, tp ≤ 900 ∧ S.1 0 2 = nI tp ∧ S.1 114 10 = nI tp ∧ ∀ j, j < tp → S.1 10 j = S.1 120 j ∧ (S.1 10 j).toInt8.toInt32 = S.1 10 j := h.2.2.2.2.1
theorem res_ok {S : aw_S} (h : Inv S) : ∀ j, j < 19 → S.2.1 95 j = lN (p5 (kwN j)) := fun j hj => (h.2.2.2.2.2.2.2.2.2 j hj).trans (kw_tb j hj)
/-- cells that only the texts' ends change -/
def TE (k j : Nat) : Prop := (k = 0 ∧ (j = 2 ∨ j = 4 ∨ j = 5)) ∨ (k = 114 ∧ (j = 10 ∨ j = 16 ∨ j = 17))
theorem Inv.txe {S Z : aw_S} {a b a' b' : Nat} (h : Inv S) (ha : S.2.2 0 6 = some a) (hb : S.2.2 0 7 = some b) (hab : (a = 11 ∧ b = 26) ∨ (a = 26 ∧ b = 11)) (hI : ∀ k j, ¬ (ZI a b k j ∨ TE k j) → Z.1 k j = S.1 k j) (hL : ∀ k j, ¬ ZL a b k j → Z.2.1 k j = S.2.1 k j) (hR : RefsOk Z.2.2) (ha' : Z.2.2 0 6 = some a') (hb' : Z.2.2 0 7 = some b') (hab' : (a' = a ∧ b' = b) ∨ (a' = b ∧ b' = a)) (hs : Z.1 0 3 = Z.1 114 2) (hf : Z.2.1 111 0 = Z.2.1 114 3 ∧ Z.2.1 111 1 = Z.2.1 114 4) (hg : ggR Z.1 Z.2.1 a' 0 0) (e2 : Z.1 0 2 = 0) (e10 : Z.1 114 10 = 0) (e4 : Z.1 0 4 = Z.1 114 16) (e5 : Z.1 0 5 = Z.1 114 17) : Inv Z := by
  have dc : ∀ k j, Decidable (TE k j) := fun k j => by unfold TE; exact inferInstance
  have off : ∀ k j, ¬ TE k j → (if TE k j then S.1 k j else Z.1 k j) = Z.1 k j := fun k j q => if_neg q
  have mid : Inv ((fun k j => if TE k j then S.1 k j else Z.1 k j), Z.2) := by
    refine h.gen ha hb (fun k j q => ?_) hL hR ha' hb' hab' ?_ hf ?_
    · show (if TE k j then S.1 k j else Z.1 k j) = S.1 k j
      by_cases z : TE k j
      · rw [if_pos z]
      · rw [if_neg z]
        exact hI k j (fun y => y.elim q z)
    · show (if TE 0 3 then S.1 0 3 else Z.1 0 3) = (if TE 114 2 then S.1 114 2 else Z.1 114 2)
      rw [off 0 3 (by unfold TE; omega), off 114 2 (by unfold TE; omega)]
      exact hs
    · refine hg.fr (fun k q1 q2 => funext fun j => off k j (by unfold TE; omega)) (fun j _ => off 115 _ (by unfold TE; omega)) rfl (fun _ _ => rfl)
  exact mid.tx (fun k j q => (off k j q).symm) rfl e2 e10 e4 e5
theorem ok_green (l : Launch) : Ok_green l 0 114 sh0 Inv := by
  intro S hI x
  obtain ⟨a, b, g, N⟩ := hI.now
  have hab := N.ab
  obtain ⟨n1, n2, n3, n4, n5, n6, n7, n8, n9, n10⟩ := id N
  obtain ⟨tp, t1, t2, t3, t4⟩ := tape_ok hI
  have hb : b = 11 ∨ b = 26 := by omega
  refine e_Mg_green rfl (sp_isWithin ?_)
  rw [t2]
  have D0 : ∀ {T : aw_S}, T.1 114 10 = nI tp → ¬ (0 ≤ x ∧ x ≤ nI tp) → ∀ {X : Int32 → aw_S → Prop}, X (-1) (aw_uI T 114 2 1) → Sp l m_Md_green 200 0 0 [.ref 114, .int x] sh0 T (gI sh0 X) := by
    intro T e c X k
    refine e_Md_green rfl (e_Md_begins rfl ⟨fun _ => ⟨fun y => absurd rfl y, fun _ => e_Md_refuse rfl k⟩, fun z => ⟨fun _ => ⟨fun y => absurd rfl y, fun _ => e_Md_refuse rfl k⟩, fun z2 => ?_⟩⟩)
    exact absurd ⟨Int32.not_lt.mp z, by rw [e] at z2; exact Int32.not_lt.mp z2⟩ c
  by_cases c : 0 ≤ x ∧ x ≤ nI tp
  · rw [if_pos c]
    obtain ⟨n, hn, rfl⟩ := le_ge (n := tp) (nI_toInt (by omega)) c
    have hB : ∀ j, j < n → byP (S.1 10 j) (btN S j) := fun j hj => (bt_ok (t4 j (by omega)).2).1
    refine ⟨fun _ => ⟨93, hI.rf.at (by decide), 10, hI.rf.at (by decide), b, n2, rfl, sp_readGreen (d := 192) (B := btN S) hI.rf hb (by omega) hB (res_ok hI) (fun S1 R => ?_)⟩, fun y => absurd y (by decide)⟩
    obtain ⟨r1, r2, r3, r4, r5⟩ := R
    have c0 : ∀ j, S1.1 0 j = S.1 0 j := fun j => r1 0 j (by omega)
    have w0 := (tkF_ok (B := btN S) (L := n) (q := 0) (Nat.zero_le _)).1
    have C0 : ∀ k j, ¬ (k = 0 ∧ (j = 2 ∨ j = 4 ∨ j = 5)) → (aw_uI (aw_uI (aw_uI S1 0 2 0) 0 4 (S1.1 93 0)) 0 5 (S1.1 93 1)).1 k j = S1.1 k j := by
      intro k j q
      rw [uI_at]
      by_cases z : k = 0
      · rw [if_pos z, if_neg (by omega), uI_at, if_pos rfl, if_neg (by omega), uI_at, if_pos rfl, if_neg (by omega), z]
      · rw [if_neg z, uI_ne _ _ _ z, uI_ne _ _ _ z]
    have Cv : (aw_uI (aw_uI (aw_uI S1 0 2 0) 0 4 (S1.1 93 0)) 0 5 (S1.1 93 1)).1 0 2 = 0 ∧ (aw_uI (aw_uI (aw_uI S1 0 2 0) 0 4 (S1.1 93 0)) 0 5 (S1.1 93 1)).1 0 4 = S1.1 93 0 ∧ (aw_uI (aw_uI (aw_uI S1 0 2 0) 0 4 (S1.1 93 0)) 0 5 (S1.1 93 1)).1 0 5 = S1.1 93 1 := by
      simp only [uI_at]
      exact ⟨rfl, rfl, rfl⟩
    refine e_Mg_closeText rfl ⟨93, ?_, rfl, ?_⟩
    · show S1.2.2 0 11 = some 93
      exact r4.at (by decide)
    have q93 : ∀ (v : Int32) j, (aw_uI S1 0 2 v).1 93 j = S1.1 93 j := fun v j => by rw [uI_ne _ _ _ (by decide)]
    have q93b : ∀ (v w : Int32) j, (aw_uI (aw_uI S1 0 2 v) 0 4 w).1 93 j = S1.1 93 j := fun v w j => by rw [uI_ne _ _ _ (by decide), uI_ne _ _ _ (by decide)]
    rw [q93, q93b]
    generalize hC : aw_uI (aw_uI (aw_uI S1 0 2 0) 0 4 (S1.1 93 0)) 0 5 (S1.1 93 1) = C at C0 Cv
    have CL : C.2.1 = S1.2.1 := by rw [← hC]; rfl
    have CR : C.2.2 = S1.2.2 := by rw [← hC]; rfl
    obtain ⟨v2, v4, v5⟩ := Cv
    have cC : ∀ k j, ¬ (TE k j ∨ k = 93 ∨ k = 94 ∨ (b ≤ k ∧ k ≤ b + 13)) → C.1 k j = S.1 k j := fun k j q => by
      rw [C0 k j (fun z => q (Or.inl (Or.inl z)))]
      exact r1 k j (by omega)
    have cCL : ∀ k j, ¬ (k = 94 ∨ k = b + 1) → C.2.1 k j = S.2.1 k j := fun k j q => by rw [CL]; exact r2 k j q
    have hT : ∀ (D : aw_S), (∀ j, D.1 120 j = S.1 120 j) → ∀ j, j < n → (D.1 120 j).toInt8.toInt32 = D.1 120 j ∧ D.1 120 j &&& 255 = nI (btN S j) ∧ btN S j < 256 := by
      intro D e j hj
      have t := t4 j (by omega)
      rw [e j, ← t.1]
      exact ⟨t.2, (bt_ok t.2).2⟩
    rw [v4]
    cases er : gall (btN S) n (n + 1) (gs0 (btN S) n) with
    | inl f =>
      rw [er] at r5
      obtain ⟨z0, z1⟩ := r5
      have okf := gall_l (n + 1) (gs0 (btN S) n) (gs0_B _ n) w0 er
      have nz : ¬ nI f.1 = 0 := fun y => by
        have := (nI_inj (b := 0) (by have := okf.2.1; omega) (by omega)).mp y
        have := okf.1
        omega
      rw [z0]
      refine ⟨fun _ => ⟨fun y => absurd rfl y, fun _ => e_Mg_fail rfl ?_⟩, fun y => absurd y nz⟩
      have d0 : ∀ k j, ¬ (k = 0 ∧ j = 3) → (aw_uI C 0 3 9).1 k j = C.1 k j := fun k j q => by
        rw [uI_at]
        by_cases z : k = 0
        · rw [if_pos z, if_neg (fun y => q ⟨z, y⟩), z]
        · rw [if_neg z]
      have d3 : (aw_uI C 0 3 9).1 0 3 = 9 := by rw [uI_at, if_pos rfl, if_pos rfl]
      have dL : (aw_uI C 0 3 9).2.1 = C.2.1 := rfl
      have dR : (aw_uI C 0 3 9).2.2 = C.2.2 := rfl
      generalize aw_uI C 0 3 9 = D at d0 d3 dL dR
      have hRD : RefsOk D.2.2 := by rw [dR, CR]; exact r4
      refine sp_greenM (B := btN S) (tp := tp) hRD (by rw [d0 114 10 (by omega), C0 114 10 (by omega), r1 114 10 (by omega)]; exact t3) hn t1 (hT D (fun j => by rw [d0 120 j (by omega)]; exact cC 120 j (by unfold TE; omega))) (fun Z f' ef R => ⟨rfl, ?_⟩) (fun Z s es _ => by rw [er] at es; cases es)
      rw [er] at ef
      have ef := Sum.inl.inj ef
      subst ef
      obtain ⟨a1, a2, a3, a4, a5, a6, a7, a8, a9⟩ := R
      have zI : ∀ k j, ¬ (k = 114 ∨ k = 115 ∨ k = 121 ∨ k = 93 ∨ k = 94 ∨ (b ≤ k ∧ k ≤ b + 13) ∨ k = 0) → Z.1 k j = S.1 k j := fun k j q => by
        rw [a1 k j (by omega), d0 k j (by omega)]
        exact cC k j (by unfold TE; omega)
      refine hI.txe n1 n2 n3 (fun k j q => ?_) (fun k j q => ?_) (by rw [a3]; exact hRD) (a' := a) (b' := b) (by rw [a3, dR, CR, r3 0 (by omega) (by omega)]; exact n1) (by rw [a3, dR, CR, r3 0 (by omega) (by omega)]; exact n2) (Or.inl ⟨rfl, rfl⟩) ?_ ?_ ?_ ?_ a4 ?_ ?_
      · unfold ZI TE at q
        by_cases k0 : k = 0
        · rw [a1 k j (by omega), d0 k j (by omega)]
          exact cC k j (by unfold TE; omega)
        · by_cases k114 : k = 114
          · rw [a1 k j (by omega), d0 k j (by omega)]
            exact cC k j (by unfold TE; omega)
          · by_cases k115 : k = 115
            · rw [a1 k j (by omega), d0 k j (by omega)]
              exact cC k j (by unfold TE; omega)
            · exact zI k j (by omega)
      · unfold ZL at q
        rw [a2 k j (by omega), dL]
        exact cCL k j (by omega)
      · rw [a1 0 3 (by omega), d3, a7]
      · rw [a2 111 0 (by omega), a2 111 1 (by omega), a2 114 3 (by omega), a2 114 4 (by omega), dL, cCL 111 0 (by omega), cCL 111 1 (by omega), cCL 114 3 (by omega), cCL 114 4 (by omega)]
        exact hI.2.1
      · refine ggR.fr (I := S.1) (L := S.2.1) ⟨g.n, g.od, g.lg, g.m, g.f, g.col, g.std, n4, n5, n6, n7, by rw [Nat.zero_add]; exact n8, fun d hd => by rw [Nat.zero_add]; exact n9 d hd, n10⟩ (fun k q1 q2 => funext fun j => zI k j (by omega)) (fun j hj => ?_) (funext fun j => ?_) (fun d hd => ?_)
        · rw [Nat.zero_add, a8 j (by omega), d0 115 j (by omega)]
          exact cC 115 j (by unfold TE; omega)
        · rw [a2 _ _ (by omega), dL]
          exact cCL _ _ (by omega)
        · rw [Nat.zero_add, a9 d hd, dL]
          exact cCL _ _ (by omega)
      · rw [a1 0 2 (by omega), d0 0 2 (by omega)]; exact v2
      · rw [a1 0 4 (by omega), d0 0 4 (by omega), v4, z0, a5]
      · rw [a1 0 5 (by omega), d0 0 5 (by omega), v5, z1, a6]
    | inr s =>
      rw [er] at r5
      obtain ⟨z0, z1, z2, z3, z4, z5, z6, z7⟩ := r5
      have gB := gall_r (n + 1) (gs0 (btN S) n) s (gs0_B _ n) w0 er
      rw [z0]
      have C6 : C.2.2 0 6 = some a := by rw [CR, r3 0 (by omega) (by omega)]; exact n1
      have C7 : C.2.2 0 7 = some b := by rw [CR, r3 0 (by omega) (by omega)]; exact n2
      have hS : sh0[b]? = some (0, 2) := (GrS.mk0 hI.rf (a := b) (by omega)).sa
      refine ⟨fun y => absurd rfl y, fun _ => ⟨fun _ => ⟨a, C6, b, C7, b, by rw [uR_at, if_pos rfl, if_neg (by decide), uR_at, if_pos rfl, if_pos rfl], hS, ?_⟩, fun y => absurd y (by decide)⟩⟩
      have eb : (aw_uR (aw_uR C 0 6 (some b)) 0 7 (some a)).1 b 0 = nI s.g.n := by
        show C.1 b 0 = _
        rw [C0 b 0 (by omega)]
        exact z2.1
      rw [eb]
      refine e_Mg_give rfl ?_
      have d0 : ∀ k j, ¬ (k = 0 ∧ j = 3) → (aw_uI (aw_uR (aw_uR C 0 6 (some b)) 0 7 (some a)) 0 3 0).1 k j = C.1 k j := fun k j q => by
        rw [uI_at]
        by_cases z : k = 0
        · rw [if_pos z, if_neg (fun y => q ⟨z, y⟩), z]; rfl
        · rw [if_neg z]; rfl
      have d3 : (aw_uI (aw_uR (aw_uR C 0 6 (some b)) 0 7 (some a)) 0 3 0).1 0 3 = 0 := by rw [uI_at, if_pos rfl, if_pos rfl]
      have dL : (aw_uI (aw_uR (aw_uR C 0 6 (some b)) 0 7 (some a)) 0 3 0).2.1 = C.2.1 := rfl
      have dR : ∀ k j, (aw_uI (aw_uR (aw_uR C 0 6 (some b)) 0 7 (some a)) 0 3 0).2.2 k j = if k = 0 then (if j = 7 then some a else if j = 6 then some b else C.2.2 0 j) else C.2.2 k j := fun k j => by
        rw [uI_R, uR_at]
        by_cases z : k = 0
        · rw [if_pos z, if_pos z]
          by_cases y : j = 7
          · rw [if_pos y, if_pos y]
          · rw [if_neg y, if_neg y, uR_at, if_pos rfl]
        · rw [if_neg z, if_neg z, uR_at, if_neg z]
      generalize aw_uI (aw_uR (aw_uR C 0 6 (some b)) 0 7 (some a)) 0 3 0 = D at d0 d3 dL dR
      have hRD : RefsOk D.2.2 := by
        have nn : ∀ q ∈ rfT, ¬ (q.1 = 0 ∧ (q.2.1 = 6 ∨ q.2.1 = 7)) := by decide +kernel
        intro q hq
        have h0 := r4 q hq
        have h1 := nn q hq
        rw [dR]
        by_cases z : q.1 = 0
        · rw [if_pos z, if_neg (by omega), if_neg (by omega), ← z, CR]; exact h0
        · rw [if_neg z, CR]; exact h0
      refine sp_greenM (B := btN S) (tp := tp) hRD (by rw [d0 114 10 (by omega), C0 114 10 (by omega), r1 114 10 (by omega)]; exact t3) hn t1 (hT D (fun j => by rw [d0 120 j (by omega)]; exact cC 120 j (by unfold TE; omega))) (fun Z f' ef _ => by rw [er] at ef; cases ef) (fun Z s' es R => ?_)
      rw [er] at es
      have es := Sum.inr.inj es
      subst es
      refine ⟨rfl, ?_⟩
      obtain ⟨a1, a2, a3, a4, a5, a6, a7, a8, a9, a10, a11⟩ := R
      have zb : ∀ k j, b ≤ k → k ≤ b + 13 → Z.1 k j = S1.1 k j := fun k j q1 q2 => by rw [a1 k j (by omega), d0 k j (by omega), C0 k j (by omega)]
      refine hI.txe n1 n2 n3 (fun k j q => ?_) (fun k j q => ?_) (by rw [a3]; exact hRD) (a' := b) (b' := a) (by rw [a3, dR, if_pos rfl, if_neg (by decide), if_pos rfl]) (by rw [a3, dR, if_pos rfl, if_pos rfl]) (Or.inr ⟨rfl, rfl⟩) ?_ ?_ ?_ ?_ a4 ?_ ?_
      · unfold ZI TE at q
        rw [a1 k j (by omega), d0 k j (by omega)]
        exact cC k j (by unfold TE; omega)
      · unfold ZL at q
        rw [a2 k j (by omega), dL]
        exact cCL k j (by omega)
      · rw [a1 0 3 (by omega), d3, a7]
      · rw [a2 111 0 (by omega), a2 111 1 (by omega), a2 114 3 (by omega), a2 114 4 (by omega), dL, cCL 111 0 (by omega), cCL 111 1 (by omega), cCL 114 3 (by omega), cCL 114 4 (by omega)]
        exact hI.2.1
      · refine ⟨s.g.n, s.g.od, s.g.lg, s.g.m, s.g.f, s.g.col, s.g.std, gB.1, gB.2.1, z2.fr (fun k q1 q2 => funext fun j => zb k j q1 (by omega)), a8, ?_, fun d hd => ?_, Or.inl ⟨?_, ?_, ?_⟩⟩
        · rw [Nat.zero_add, a9, zb b 3 (by omega) (by omega), zb b 4 (by omega) (by omega), z4, z5]
          decide
        · rw [Nat.zero_add, a11 d hd, a2 (b + 1) d (by omega), dL, CL, z3 d hd]
          have ow := gB.2.2.2 d hd
          by_cases e : (s.nm d).length = 0
          · have e : s.nm d = [] := List.length_eq_zero_iff.mp e
            rw [e]
            exact Or.inl ⟨rfl, rfl⟩
          · exact Or.inr ⟨s.nm d, by omega, ow.1, ow.2, rfl, rfl⟩
        · rw [zb (b + 8) 0 (by omega) (by omega)]; exact z6
        · rw [zb (b + 8) 1 (by omega) (by omega)]; exact z7
        · rw [Nat.zero_add]; exact a10
      · rw [a1 0 2 (by omega), d0 0 2 (by omega)]; exact v2
      · rw [a1 0 4 (by omega), d0 0 4 (by omega), v4, z0, a5]
      · rw [a1 0 5 (by omega), d0 0 5 (by omega), v5, z1, a6]
  · rw [if_neg c]
    refine ⟨fun y => absurd rfl y, fun _ => e_Mg_fail rfl (D0 ?_ c ⟨rfl, hI.st rfl⟩)⟩
    rw [uI_ne _ _ _ (by decide)]
    exact t3
