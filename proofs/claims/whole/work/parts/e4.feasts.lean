/-! feasts: the call -/
theorem fe_mk {n : Nat} {I : Nat → Nat → Int32} {c : Nat} {s : FpS} (hB : FpB n s) (hD : s.D = 0) (hM : FdM I 0 s) (i0 : I c 0 = 1) (i1 : I c 1 = nI (ncN s.cd s.N)) (hC : ∀ e, e < s.N → ¬ s.cd e = 13 → enC (s.cd e) (s.xa e) (s.xb e) (s.xc e) (I (c + 1) (ncN s.cd e)) (I (c + 2) (ncN s.cd e)) (I (c + 3) (ncN s.cd e)) (I (c + 4) (ncN s.cd e)) ∧ I (c + 5) (ncN s.cd e) = nI (bhF s.cd s.pr e)) : feR n I c 0 := by
  have N60 := hB.n60
  obtain ⟨b1, b2, b3, b5, b6, b7, b8, b9, b10, b11⟩ := hB
  have cl : ∀ e, e < s.N → opN s.cd e = true → e < s.pr e ∧ s.pr e < s.N ∧ s.cd (s.pr e) = 13 ∧ s.pr (s.pr e) = e := fun e he ho => by
    rcases b7 e he ho with ⟨-, i, hi, -⟩ | q
    · omega
    · exact q
  refine Or.inr ⟨i0, s.N, s.cd, s.pr, N60, b2, i1, hM.1, fun e he => ?_, fun e e' he he' ho ho' h1 h2 => ?_, b11⟩
  · obtain ⟨m0, m13, mop, men⟩ := hM.2 e he
    obtain ⟨c2, cv⟩ := b5 e he
    refine ⟨m0, c2, fun q => ?_, fun q => ⟨?_, fun ho => ?_⟩⟩
    · obtain ⟨a1, a2, a3⟩ := b6 e he q
      exact ⟨a1, a2, a3, m13 q⟩
    · obtain ⟨hc, hb⟩ := hC e he q
      obtain ⟨e1, e2, e5⟩ := men q
      have hv := cv q
      unfold enV at hv
      have nop : ¬ (s.cd e = 12 ∨ 1100 ≤ s.cd e) → I (c + 5) (ncN s.cd e) = nI (ncN s.cd e + 1) := fun y => by
        rw [hb]
        unfold bhF
        rw [if_neg (fun z => y (op_iff.mp z.1))]
      have yop : (s.cd e = 12 ∨ 1100 ≤ s.cd e) → e < s.pr e ∧ s.pr e < s.N ∧ s.cd (s.pr e) = 13 ∧ I 115 (0 + 184 + 6 * e + 4) = nI (s.pr e) ∧ I (c + 5) (ncN s.cd e) = nI (ncN s.cd (s.pr e)) := fun y => by
        have ho := op_iff.mpr y
        obtain ⟨a1, a2, a3, a4⟩ := cl e he ho
        refine ⟨a1, a2, a3, mop ho (by omega), ?_⟩
        rw [hb]
        unfold bhF
        rw [if_pos ⟨ho, by omega⟩]
      unfold stR
      rcases hc with ⟨ec, kd, fs, sd⟩ | ⟨ec, kd⟩ | ⟨ec, kd, fs⟩ | ⟨ec, kd, fs, sd⟩ | ⟨ec, kd⟩ | ⟨ec, kd⟩ | ⟨ec, kd, fs⟩ | ⟨kd, hc⟩
      · exact Or.inl ⟨ec, kd, ⟨s.xa e, s.xb e, by omega, by omega, fs, e1 (by omega), sd, e2 (by omega)⟩, nop (by omega)⟩
      · exact Or.inr (Or.inl ⟨ec, kd, nop (by omega)⟩)
      · exact Or.inr (Or.inr (Or.inl ⟨ec, kd, ⟨s.xa e, by omega, by omega, fs, e1 (by omega)⟩, nop (by omega)⟩))
      · exact Or.inr (Or.inr (Or.inr (Or.inl ⟨ec, kd, ⟨s.xa e, s.xb e, by omega, by omega, fs, e1 (by omega), sd, e2 (by omega)⟩, nop (by omega)⟩)))
      · exact Or.inr (Or.inr (Or.inr (Or.inr (Or.inl ⟨ec, kd, nop (by omega)⟩))))
      · exact Or.inr (Or.inr (Or.inr (Or.inr (Or.inr (Or.inl ⟨ec, kd, nop (by omega)⟩)))))
      · obtain ⟨a1, a2, a3, a4, a5⟩ := yop (by omega)
        exact Or.inr (Or.inr (Or.inr (Or.inr (Or.inr (Or.inr ⟨s.pr e, a1, a2, a3, a4, a5, Or.inl ⟨ec, kd, s.xa e, by omega, by omega, fs, e1 (by omega)⟩⟩)))))
      · have big : 1100 ≤ s.cd e := by
          rcases hc with ⟨ec, -⟩ | ⟨ec, -⟩ | ⟨ec, -⟩ | ⟨ec, -⟩ <;> omega
        obtain ⟨a1, a2, a3, a4, a5⟩ := yop (by omega)
        refine Or.inr (Or.inr (Or.inr (Or.inr (Or.inr (Or.inr ⟨s.pr e, a1, a2, a3, a4, a5, Or.inr ⟨kd, ?_⟩⟩)))))
        rcases hc with ⟨ec, ts, fs⟩ | ⟨ec, ts, fs, sd⟩ | ⟨ec, ts, fs, sd⟩ | ⟨ec, ts, fs, sd⟩
        · exact Or.inl ⟨ec, ts, s.xa e, by omega, fs, e1 (by omega)⟩
        · exact Or.inr (Or.inl ⟨ec, ts, s.xa e, s.xb e, by omega, by omega, fs, e1 (by omega), sd, e2 (by omega)⟩)
        · exact Or.inr (Or.inr (Or.inl ⟨ec, ts, s.xa e, s.xb e, by omega, by omega, fs, e1 (by omega), sd, e2 (by omega)⟩))
        · exact Or.inr (Or.inr (Or.inr ⟨ec, ts, s.xc e, s.xb e, by omega, by omega, fs, e5 (by omega), sd, e2 (by omega)⟩))
    · obtain ⟨a1, a2, a3, a4⟩ := cl e he ho
      exact ⟨mop ho (by omega), a1, a2, a3, a4⟩
  · rcases b10 e e' he he' ho ho' h1 h2 with q | q
    · exact q
    · have := (cl e he ho).2.1
      omega
theorem nm_ex {S : aw_S} {a n : Nat} (h : ∀ d, d < n → nmR (S.2.1 (a + 1) d) (S.2.1 116 d)) : ∃ nm : Nat → List Nat, ∀ d, d < n → S.2.1 (a + 1) d = lN (p5 (nm d)) ∧ S.2.1 116 d = lN (p8 (nm d)) ∧ okW (nm d) := by
  have hx : ∀ d : Nat, ∃ w : List Nat, d < n → S.2.1 (a + 1) d = lN (p5 w) ∧ S.2.1 116 d = lN (p8 w) ∧ okW w := by
    intro d
    by_cases hd : d < n
    · rcases h d hd with ⟨q1, q2⟩ | ⟨w, -, w2, w3, w4, w5⟩
      · exact ⟨[], fun _ => ⟨q1, q2, Nat.zero_le _, fun c hc => by cases hc⟩⟩
      · exact ⟨w, fun _ => ⟨w4, w5, w2, w3⟩⟩
    · exact ⟨[], fun y => absurd y hd⟩
  exact ⟨fun d => (hx d).choose, fun d hd => (hx d).choose_spec hd⟩
theorem ok_feasts (l : Launch) : Ok_feasts l 0 114 sh0 Inv := by
  intro S hI x
  obtain ⟨a, b, g, N⟩ := hI.now
  have hab := N.ab
  obtain ⟨n1, n2, n3, n4, n5, n6, n7, n8, n9, n10⟩ := id N
  obtain ⟨tp, t1, t2, t3, t4⟩ := tape_ok hI
  obtain ⟨nm, hnm⟩ := nm_ex n9
  have ha : a = 11 ∨ a = 26 := by omega
  have hn : g.n ≤ 7 := n4.1
  refine e_Mg_feasts rfl (sp_isWithin ?_)
  rw [t2]
  have D0 : ∀ {T : aw_S}, T.1 114 10 = nI tp → (¬ (0 ≤ x ∧ x ≤ nI tp) ∨ ¬ x ≤ 300) → ∀ {X : Int32 → aw_S → Prop}, X (-1) (aw_uI T 114 2 1) → Sp l m_Md_feasts 200 0 0 [.ref 114, .int x] sh0 T (gI sh0 X) := by
    intro T e c X k
    refine e_Md_feasts rfl (e_Md_begins rfl ⟨fun _ => ⟨fun y => absurd rfl y, fun _ => e_Md_refuse rfl k⟩, fun z => ⟨fun _ => ⟨fun y => absurd rfl y, fun _ => e_Md_refuse rfl k⟩, fun z2 => ⟨fun z3 => ?_, fun z3 => ⟨fun y => absurd rfl y, fun _ => e_Md_refuse rfl k⟩⟩⟩⟩)
    rcases c with c | c
    · exact absurd ⟨Int32.not_lt.mp z, by rw [e] at z2; exact Int32.not_lt.mp z2⟩ c
    · exact absurd z3 c
  by_cases c : 0 ≤ x ∧ x ≤ nI tp
  · rw [if_pos c]
    refine ⟨fun y => absurd y (by decide), fun _ => ⟨fun c3 => ?_, fun c3 => e_Mg_fail rfl (D0 ?_ (Or.inr c3) ⟨rfl, hI.st rfl⟩)⟩⟩
    · obtain ⟨L, hn', rfl⟩ := le_ge (n := tp) (nI_toInt (by omega)) c
      have L300 : L ≤ 300 := (nI_leI (b := 300) (by omega) (by omega)).mp c3
      have hB : ∀ j, j < L → byP (S.1 10 j) (btN S j) := fun j hj => (bt_ok (t4 j (by omega)).2).1
      refine ⟨93, hI.rf.at (by decide), 10, hI.rf.at (by decide), a, n1, 87, hI.rf.at (by decide), rfl, sp_readFeasts (d := 192) (B := btN S) (nm := nm) hI.rf hn ha n6.1 (fun d hd => ⟨(hnm d hd).1, (hnm d hd).2.2⟩) (by omega) hB (res_ok hI) (fun S1 R => ?_)⟩
      obtain ⟨r1, r2, r3, r4, r5⟩ := R
      have w0 := (tkF_ok (B := btN S) (L := L) (q := 0) (Nat.zero_le _)).1
      have C0 : ∀ k j, ¬ (k = 0 ∧ (j = 2 ∨ j = 4 ∨ j = 5)) → (aw_uI (aw_uI (aw_uI S1 0 2 0) 0 4 (S1.1 93 0)) 0 5 (S1.1 93 1)).1 k j = S1.1 k j := by
        intro k j q
        rw [uI_at]
        by_cases z : k = 0
        · rw [if_pos z, if_neg (by omega), uI_at, if_pos rfl, if_neg (by omega), uI_at, if_pos rfl, if_neg (by omega), z]
        · rw [if_neg z, uI_ne _ _ _ z, uI_ne _ _ _ z]
      have Cv : (aw_uI (aw_uI (aw_uI S1 0 2 0) 0 4 (S1.1 93 0)) 0 5 (S1.1 93 1)).1 0 2 = 0 ∧ (aw_uI (aw_uI (aw_uI S1 0 2 0) 0 4 (S1.1 93 0)) 0 5 (S1.1 93 1)).1 0 4 = S1.1 93 0 ∧ (aw_uI (aw_uI (aw_uI S1 0 2 0) 0 4 (S1.1 93 0)) 0 5 (S1.1 93 1)).1 0 5 = S1.1 93 1 := by
        simp only [uI_at]
        exact ⟨rfl, rfl, rfl⟩
      refine e_Mg_closeText rfl ⟨93, ?_, rfl, ?_⟩
      · show S1.2.2 0 11 = some 93
        exact r4.at (by decide)
      have q93 : ∀ (v : Int32) j, (aw_uI S1 0 2 v).1 93 j = S1.1 93 j := fun v j => by rw [uI_ne _ _ _ (by decide)]
      have q93b : ∀ (v w : Int32) j, (aw_uI (aw_uI S1 0 2 v) 0 4 w).1 93 j = S1.1 93 j := fun v w j => by rw [uI_ne _ _ _ (by decide), uI_ne _ _ _ (by decide)]
      rw [q93, q93b]
      generalize hC : aw_uI (aw_uI (aw_uI S1 0 2 0) 0 4 (S1.1 93 0)) 0 5 (S1.1 93 1) = C at C0 Cv
      have CL : C.2.1 = S1.2.1 := by rw [← hC]; rfl
      have CR : C.2.2 = S1.2.2 := by rw [← hC]; rfl
      obtain ⟨v2, v4, v5⟩ := Cv
      have cC : ∀ k j, ¬ (TE k j ∨ k = 93 ∨ k = 94 ∨ k = 96 ∨ (87 ≤ k ∧ k ≤ 92)) → C.1 k j = S.1 k j := fun k j q => by
        rw [C0 k j (fun z => q (Or.inl (Or.inl z)))]
        exact r1 k j (by omega)
      have cCL : ∀ k j, k ≠ 94 → C.2.1 k j = S.2.1 k j := fun k j q => by rw [CL]; exact r2 k j q
      have hRC : RefsOk C.2.2 := by rw [CR]; exact r4
      have hT : ∀ (D : aw_S), (∀ j, D.1 120 j = S.1 120 j) → ∀ j, j < L → (D.1 120 j).toInt8.toInt32 = D.1 120 j ∧ D.1 120 j &&& 255 = nI (btN S j) ∧ btN S j < 256 := by
        intro D e j hj
        have t := t4 j (by omega)
        rw [e j, ← t.1]
        exact ⟨t.2, (bt_ok t.2).2⟩
      have C6 : C.2.2 0 6 = some a := by rw [CR, r3 0 (by omega) (by omega)]; exact n1
      have C7 : C.2.2 0 7 = some b := by rw [CR, r3 0 (by omega) (by omega)]; exact n2
      rw [v4]
      cases er : fall (btN S) L g.n nm (L + 1) (fs0 (btN S) L) with
      | inl f =>
        rw [er] at r5
        obtain ⟨z0, z1⟩ := r5
        have okf := fall_l (L + 1) (fs0 (btN S) L) (fs0_B _ L g.n) w0 er
        have nz : ¬ nI f.1 = 0 := fun y => by
          have := (nI_inj (b := 0) (by have := okf.2.1; omega) (by omega)).mp y
          have := okf.1
          omega
        rw [z0]
        refine ⟨fun _ => ⟨fun y => absurd rfl y, fun _ => e_Mg_fail rfl ?_⟩, fun y => absurd y nz⟩
        have d0 : ∀ k j, ¬ (k = 0 ∧ j = 3) → (aw_uI C 0 3 9).1 k j = C.1 k j := fun k j q => by
          rw [uI_at]
          by_cases z : k = 0
          · rw [if_pos z, if_neg (fun y => q ⟨z, y⟩), z]
          · rw [if_neg z]
        have d3 : (aw_uI C 0 3 9).1 0 3 = 9 := by rw [uI_at, if_pos rfl, if_pos rfl]
        have dL : (aw_uI C 0 3 9).2.1 = C.2.1 := rfl
        have dR : (aw_uI C 0 3 9).2.2 = C.2.2 := rfl
        generalize aw_uI C 0 3 9 = D at d0 d3 dL dR
        have hRD : RefsOk D.2.2 := by rw [dR]; exact hRC
        have dS : ∀ k j, ¬ ((k = 0 ∧ j = 3) ∨ TE k j ∨ k = 93 ∨ k = 94 ∨ k = 96 ∨ (87 ≤ k ∧ k ≤ 92)) → D.1 k j = S.1 k j := fun k j q => by
          rw [d0 k j (fun z => q (Or.inl z))]
          exact cC k j (fun z => q (Or.inr z))
        refine sp_feastsM (d := 188) (B := btN S) (nm := nm) (tp := tp) hRD hn (by rw [dS 115 0 (by unfold TE; omega)]; exact n7.1) (fun d hd => by rw [dL, cCL 116 d (by omega)]; exact ⟨(hnm d hd).2.1, (hnm d hd).2.2⟩) (by rw [d0 114 10 (by omega), C0 114 10 (by omega), r1 114 10 (by omega)]; exact t3) hn' t1 L300 (hT D (fun j => dS 120 j (by unfold TE; omega))) (fun Z f' ef R => ⟨rfl, ?_⟩) (fun Z s es _ => by rw [er] at es; cases es)
        rw [er] at ef
        have ef := Sum.inl.inj ef
        subst ef
        obtain ⟨a1, a2, a4, a5, a6, a7, a8⟩ := R
        have a2L : Z.2.1 = D.2.1 := by rw [a2]
        have a2R : Z.2.2 = D.2.2 := by rw [a2]
        have zS : ∀ k j, ¬ ((k = 114 ∧ j ≠ 50 ∧ j ≠ 51) ∨ (k = 115 ∧ (j = 5 ∨ (184 ≤ j ∧ j < 544) ∨ 2208 ≤ j)) ∨ k = 121 ∨ k = 122 ∨ k = 0 ∨ k = 93 ∨ k = 94 ∨ k = 96 ∨ (87 ≤ k ∧ k ≤ 92)) → Z.1 k j = S.1 k j := fun k j q => by
          rw [a1 k j (by omega)]
          exact dS k j (by unfold TE; omega)
        refine hI.txe n1 n2 n3 (fun k j q => ?_) (fun k j q => ?_) (by rw [a2R]; exact hRD) (a' := a) (b' := b) (by rw [a2R, dR]; exact C6) (by rw [a2R, dR]; exact C7) (Or.inl ⟨rfl, rfl⟩) ?_ ?_ ?_ ?_ a4 ?_ ?_
        · unfold ZI TE at q
          rw [a1 k j (by omega)]
          exact dS k j (by unfold TE; omega)
        · unfold ZL at q
          rw [a2L, dL]
          exact cCL k j (by omega)
        · rw [a1 0 3 (by omega), d3, a7]
        · rw [a2L, dL, cCL 111 0 (by omega), cCL 111 1 (by omega), cCL 114 3 (by omega), cCL 114 4 (by omega)]
          exact hI.2.1
        · refine ggR.fr (I := S.1) (L := S.2.1) ⟨g.n, g.od, g.lg, g.m, g.f, g.col, g.std, n4, n5, n6, n7, by rw [Nat.zero_add]; exact n8, fun d hd => by rw [Nat.zero_add]; exact n9 d hd, n10⟩ (fun k q1 q2 => funext fun j => zS k j (by omega)) (fun j hj => ?_) (funext fun j => ?_) (fun d hd => ?_)
          · rw [Nat.zero_add, a8 j (by omega)]
            exact dS 115 j (by unfold TE; omega)
          · rw [a2L, dL]
            exact cCL _ _ (by omega)
          · rw [a2L, dL]
            exact cCL _ _ (by omega)
        · rw [a1 0 2 (by omega), d0 0 2 (by omega)]; exact v2
        · rw [a1 0 4 (by omega), d0 0 4 (by omega), v4, z0, a5]
        · rw [a1 0 5 (by omega), d0 0 5 (by omega), v5, z1, a6]
      | inr s =>
        rw [er] at r5
        obtain ⟨z0, z1, z2, z3, z4⟩ := r5
        obtain ⟨gB, gD⟩ := fall_r (L + 1) (fs0 (btN S) L) s (fs0_B _ L g.n) w0 er
        have b30 := gB.2.1
        rw [z0]
        have hS : sh0[a]? = some (0, 2) := (GrS.mk0 hI.rf (a := a) (by omega)).sa
        have r11 : C.2.2 a 11 = some (a + 8) := (GrS.mk0 hRC (a := a) (by omega)).r11
        have hFa : FeS sh0 C.2.2 (a + 8) := FeS.mk0 hRC (by omega)
        have hF87 : FeS sh0 C.2.2 87 := FeS.mk0 hRC (by omega)
        refine ⟨fun y => absurd rfl y, fun _ => ⟨fun _ => ⟨a, C6, hS, a + 8, r11, 87, hRC.at (by decide), hFa.1, ?_⟩, fun y => absurd y (by decide)⟩⟩
        refine sp_Fe_copyFrom (n := ncN s.cd s.N) hFa hF87 (by omega) (Or.inr (by rw [C0 87 0 (by omega)]; exact z2)) b30 (by rw [C0 87 1 (by omega)]; exact z3) (fun E hE => ?_)
        obtain ⟨f1, f2, f3, f4⟩ := hE
        have e1 : E.1 (a + 8) 1 = nI (ncN s.cd s.N) := by rw [f3, C0 87 1 (by omega)]; exact z3
        refine ⟨a, by rw [f1.R]; exact C6, hS, a + 8, by rw [f1.R]; exact r11, hFa.1, ?_⟩
        rw [e1]
        refine e_Mg_give rfl ?_
        have d0 : ∀ k j, ¬ (k = 0 ∧ j = 3) → (aw_uI E 0 3 0).1 k j = E.1 k j := fun k j q => by
          rw [uI_at]
          by_cases z : k = 0
          · rw [if_pos z, if_neg (fun y => q ⟨z, y⟩), z]
          · rw [if_neg z]
        have d3 : (aw_uI E 0 3 0).1 0 3 = 0 := by rw [uI_at, if_pos rfl, if_pos rfl]
        have dL : (aw_uI E 0 3 0).2.1 = C.2.1 := f1.L
        have dR : (aw_uI E 0 3 0).2.2 = C.2.2 := f1.R
        generalize aw_uI E 0 3 0 = D at d0 d3 dL dR
        have hRD : RefsOk D.2.2 := by rw [dR]; exact hRC
        have dC : ∀ k j, ¬ ((k = 0 ∧ j = 3) ∨ (a + 8 ≤ k ∧ k ≤ a + 13)) → D.1 k j = C.1 k j := fun k j q => by
          rw [d0 k j (fun z => q (Or.inl z))]
          exact f1.1 k j (by omega)
        have dS : ∀ k j, ¬ ((k = 0 ∧ j = 3) ∨ (a + 8 ≤ k ∧ k ≤ a + 13) ∨ TE k j ∨ k = 93 ∨ k = 94 ∨ k = 96 ∨ (87 ≤ k ∧ k ≤ 92)) → D.1 k j = S.1 k j := fun k j q => by
          rw [dC k j (fun z => q (z.elim Or.inl (fun z => Or.inr (Or.inl z))))]
          exact cC k j (fun z => q (Or.inr (Or.inr z)))
        refine sp_feastsM (d := 188) (B := btN S) (nm := nm) (tp := tp) hRD hn (by rw [dS 115 0 (by unfold TE; omega)]; exact n7.1) (fun d hd => by rw [dL, cCL 116 d (by omega)]; exact ⟨(hnm d hd).2.1, (hnm d hd).2.2⟩) (by rw [dC 114 10 (by omega), C0 114 10 (by omega), r1 114 10 (by omega)]; exact t3) hn' t1 L300 (hT D (fun j => dS 120 j (by unfold TE; omega))) (fun Z f' ef _ => by rw [er] at ef; cases ef) (fun Z s' es R => ?_)
        rw [er] at es
        have es := Sum.inr.inj es
        subst es
        refine ⟨rfl, ?_⟩
        obtain ⟨a1, a2, a4, a5, a6, a7, a8⟩ := R
        have a2L : Z.2.1 = D.2.1 := by rw [a2]
        have a2R : Z.2.2 = D.2.2 := by rw [a2]
        have zS : ∀ k j, ¬ ((k = 114 ∧ j ≠ 50 ∧ j ≠ 51) ∨ (k = 115 ∧ (j = 5 ∨ (184 ≤ j ∧ j < 544) ∨ 2208 ≤ j)) ∨ k = 121 ∨ k = 122 ∨ k = 0 ∨ k = 93 ∨ k = 94 ∨ k = 96 ∨ (87 ≤ k ∧ k ≤ 92) ∨ (a + 8 ≤ k ∧ k ≤ a + 13)) → Z.1 k j = S.1 k j := fun k j q => by
          rw [a1 k j (by omega)]
          exact dS k j (by unfold TE; omega)
        have zE : ∀ k j, a + 8 ≤ k → k ≤ a + 13 → Z.1 k j = E.1 k j := fun k j q1 q2 => by
          rw [a1 k j (by omega)]
          exact d0 k j (by omega)
        refine hI.txe n1 n2 n3 (fun k j q => ?_) (fun k j q => ?_) (by rw [a2R]; exact hRD) (a' := a) (b' := b) (by rw [a2R, dR]; exact C6) (by rw [a2R, dR]; exact C7) (Or.inl ⟨rfl, rfl⟩) ?_ ?_ ?_ ?_ a4 ?_ ?_
        · unfold ZI TE at q
          rw [a1 k j (by omega)]
          exact dS k j (by unfold TE; omega)
        · unfold ZL at q
          rw [a2L, dL]
          exact cCL k j (by omega)
        · rw [a1 0 3 (by omega), d3, a7]
        · rw [a2L, dL, cCL 111 0 (by omega), cCL 111 1 (by omega), cCL 114 3 (by omega), cCL 114 4 (by omega)]
          exact hI.2.1
        · have mdZ : MdG Z.1 0 g := by
            obtain ⟨h1, h2, h3, h4, h5, h6, h7⟩ := n7
            have hm := n4.2.2.2.2.1
            refine ⟨?_, ?_, ?_, ?_, fun k hk => ?_, fun d hd => ?_, fun p hp => ?_⟩
            · rw [zS 115 _ (by omega)]; exact h1
            · rw [zS 115 _ (by omega)]; exact h2
            · rw [zS 115 _ (by omega)]; exact h3
            · rw [zS 115 _ (by omega)]; exact h4
            · rw [zS 115 _ (by omega), zS 115 _ (by omega), zS 115 _ (by omega), zS 115 _ (by omega)]; exact h5 k hk
            · rw [zS 115 _ (by omega)]; exact h6 d hd
            · rw [zS 115 _ (by omega)]; exact h7 p hp
          refine ⟨g.n, g.od, g.lg, g.m, g.f, g.col, g.std, n4, n5, n6.fr (fun k q1 q2 => funext fun j => zS k j (by omega)), mdZ, ?_, fun d hd => ?_, ?_⟩
          · rw [Nat.zero_add, zS 115 4 (by omega), zS a 3 (by omega), zS a 4 (by omega)]; exact n8
          · rw [Nat.zero_add, a2L, dL, cCL (a + 1) d (by omega), cCL 116 d (by omega)]
            exact n9 d hd
          · refine fe_mk gB gD a8 ?_ ?_ (fun e he hc => ?_)
            · rw [zE _ _ (by omega) (by omega), f2, C0 87 0 (by omega)]; exact z2
            · rw [zE _ _ (by omega) (by omega)]; exact e1
            · have lt := nc_in (cd := s.cd) he hc
              obtain ⟨y1, y2, y3, y4, y5⟩ := f4 _ lt
              rw [zE _ _ (by omega) (by omega), zE _ _ (by omega) (by omega), zE _ _ (by omega) (by omega), zE _ _ (by omega) (by omega), zE _ _ (by omega) (by omega), y1, y2, y3, y4, y5, C0 _ _ (by omega), C0 _ _ (by omega), C0 _ _ (by omega), C0 _ _ (by omega), C0 _ _ (by omega)]
              exact z4 e he hc
        · rw [a1 0 2 (by omega), dC 0 2 (by omega)]; exact v2
        · rw [a1 0 4 (by omega), dC 0 4 (by omega), v4, z0, a5]
        · rw [a1 0 5 (by omega), dC 0 5 (by omega), v5, z1, a6]
    · rw [uI_ne _ _ _ (by decide)]
      exact t3
  · rw [if_neg c]
    refine ⟨fun _ => e_Mg_fail rfl (D0 ?_ (Or.inl c) ⟨rfl, hI.st rfl⟩), fun y => absurd rfl y⟩
    rw [uI_ne _ _ _ (by decide)]
    exact t3
