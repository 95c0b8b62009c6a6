/-! paint, trade, rule, meet, dancer -/
theorem lg_gt0 (x y : Int64) : 0 < lg_cmp x y ↔ y < x := by
  unfold lg_cmp
  split
  · next h => exact ⟨fun _ => h, fun _ => by decide⟩
  · next h => split <;> exact ⟨fun z => absurd z (by decide), fun z => absurd z h⟩
theorem lg_lt0 (x y : Int64) : lg_cmp x y < 0 ↔ x < y := by
  unfold lg_cmp
  split
  · next h => exact ⟨fun z => absurd z (by decide), fun z => absurd (Int64.lt_trans h z) (fun q => Int64.lt_irrefl q)⟩
  · next h =>
    split
    · next h2 => exact ⟨fun z => absurd z (by decide), fun z => absurd z (by rw [h2]; exact fun q => Int64.lt_irrefl q)⟩
    · next h2 => exact ⟨fun _ => Int64.lt_of_le_of_ne (Int64.not_lt.mp h) h2, fun _ => by decide⟩
theorem wide_le (a b : Int32) : a.toInt64 ≤ b.toInt64 ↔ a ≤ b := by
  rw [Int64.le_iff_toInt_le, Int32.le_iff_toInt_le]
  simp
section PT
variable {l : Launch} {d : Nat} {sh : aw_SH} {S : aw_S}
theorem sp_isFromL {P : Int32 → aw_S → Prop} {x y z : Int64} (h1 : y ≤ x → x ≤ z → P 1 S) (h0 : ¬ (y ≤ x ∧ x ≤ z) → P 0 S) : Sp l m_Md_isFrom (d + 1) 0 0 [.long x, .long y, .long z] sh S (gI sh P) := by
  refine e_Md_isFrom ⟨fun q => h0 (fun w => ?_), fun q => ⟨fun q2 => h0 (fun w => ?_), fun q2 => h1 ?_ ?_⟩⟩
  · exact absurd ((lg_lt0 _ _).mp q) (Int64.not_lt.mpr w.1)
  · exact absurd ((lg_gt0 _ _).mp q2) (Int64.not_lt.mpr w.2)
  · exact Int64.not_lt.mp (fun z => q ((lg_lt0 _ _).mpr z))
  · exact Int64.not_lt.mp (fun z => q2 ((lg_gt0 _ _).mpr z))
theorem sp_isFrom {P : Int32 → aw_S → Prop} {x y z : Int32} {y' z' : Int64} (hy : y' = y.toInt64) (hz : z' = z.toInt64) (h1 : y ≤ x ∧ x ≤ z → P 1 S) (h0 : ¬ (y ≤ x ∧ x ≤ z) → P 0 S) : Sp l m_Md_isFrom (d + 1) 0 0 [.long x.toInt64, .long y', .long z'] sh S (gI sh P) := by
  subst hy
  subst hz
  exact sp_isFromL (fun a b => h1 ⟨(wide_le _ _).mp a, (wide_le _ _).mp b⟩) (fun c => h0 (fun w => c ⟨(wide_le _ _).mpr w.1, (wide_le _ _).mpr w.2⟩))
end PT
def upN (f : Nat → Nat) (k v i : Nat) : Nat := if i = k then v else f i
def colG (g : GM) (d c : Nat) : GM := (g.n, g.od, g.lg, g.m, g.f, upN g.col d c, g.std)
theorem bdG.col {g : GM} {d c : Nat} (hb : bdG g) (hc : c ≤ 5) : bdG (colG g d c) := by
  obtain ⟨b1, b2, b3, b4, b5, b6, b7, b8, b9⟩ := hb
  refine ⟨b1, b2, b3, b4, b5, b6, fun e he => ?_, b8, b9⟩
  show upN g.col d c e ≤ 5
  unfold upN
  split
  · exact hc
  · exact b7 e he
theorem GrG.col {S : aw_S} {a d c : Nat} {g : GM} (H : GrG S.1 a g) : GrG (aw_uI S (a + 2) d (nI c)).1 a (colG g d c) := by
  obtain ⟨y0, y1, y2, y3, y4, y5, y6, y7⟩ := H
  refine ⟨?_, ?_, ?_, ?_, ?_, fun e he => ?_, ?_, ?_⟩
  · rw [uI_ne _ _ _ (by omega)]; exact y0
  · rw [uI_ne _ _ _ (by omega)]; exact y1
  · rw [uI_ne _ _ _ (by omega)]; exact y2
  · rw [uI_ne _ _ _ (by omega)]; exact y3
  · rw [uI_ne _ _ _ (by omega)]; exact y4
  · rw [uI_at, if_pos rfl]
    show _ = nI (upN g.col d c e)
    unfold upN
    by_cases q : e = d
    · rw [if_pos q, if_pos q]
    · rw [if_neg q, if_neg q]
      exact y5 e he
  · rw [uI_ne _ _ _ (by omega), uI_ne _ _ _ (by omega)]; exact y6
  · rw [uI_ne _ _ _ (by omega)]; exact y7
theorem MdG.col {S : aw_S} {d c : Nat} {g : GM} (H : MdG S.1 0 g) (hb : bdG g) (hd : d < g.n) : MdG (aw_uI S 115 (10 + d) (nI c)).1 0 (colG g d c) := by
  have hn : g.n ≤ 7 := hb.1
  obtain ⟨y0, y1, y2, y3, y4, y5, y6⟩ := H
  have o : ∀ j, j ≠ 10 + d → (aw_uI S 115 (10 + d) (nI c)).1 115 j = S.1 115 j := fun j hj => by rw [uI_at, if_pos rfl, if_neg hj]
  refine ⟨?_, ?_, ?_, ?_, fun k hk => ?_, fun e he => ?_, fun p hp => ?_⟩
  · rw [o _ (by omega)]; exact y0
  · rw [o _ (by omega)]; exact y1
  · rw [o _ (by omega)]; exact y2
  · rw [o _ (by omega)]; exact y3
  · rw [o _ (by omega), o _ (by omega), o _ (by omega), o _ (by omega)]; exact y4 k hk
  · have he : e < g.n := he
    rw [uI_at, if_pos rfl]
    show _ = nI (upN g.col d c e)
    unfold upN
    by_cases q : e = d
    · rw [if_pos (by omega), if_pos q]
    · rw [if_neg (by omega), if_neg q]
      exact y5 e he
  · have hp : p < g.n := hp
    rw [o _ (by omega)]; exact y6 p hp
theorem MdG.c5 {I : Nat → Nat → Int32} {g : GM} (H : MdG I 0 g) {d : Nat} (hd : d < g.n) : I 115 (10 + d) = nI (g.col d) := by
  have e := H.2.2.2.2.2.1 d hd
  rw [Nat.zero_add] at e
  exact e
theorem ok_paint (l : Launch) : Ok_paint l 0 114 sh0 Inv := by
  intro S hI x y
  obtain ⟨a, b, g, N⟩ := hI.now
  have hS := N.S hI.rf
  have hM := MdS.mk0 hI.rf
  have hab := N.ab
  obtain ⟨n1, n2, n3, n4, n5, n6, n7, n8, n9, n10⟩ := id N
  have hn : g.n ≤ 7 := n4.1
  refine e_Mg_paint rfl (sp_Mg_isDancer (d := 197) n1 hS.sa hn n6.1 (fun hx => ⟨fun q => absurd q (by decide), fun _ => sp_isWithin ?_⟩) (fun hx => ⟨fun _ => e_Mg_fail rfl (e_Md_paint rfl (sp_Md_isDancer (d := 198) hM hn (N.m3 _).1 (fun z => absurd z hx) (fun _ => ⟨fun _ => e_Md_refuse rfl ⟨rfl, hI.st rfl⟩, fun q => absurd rfl q⟩))), fun q => absurd rfl q⟩))
  obtain ⟨k, hk, rfl⟩ := id hx
  by_cases c : 0 ≤ y ∧ y ≤ 5
  · rw [if_pos c]
    obtain ⟨v, hv, rfl⟩ := le_ge (n := 5) (by decide) c
    refine ⟨fun _ => ⟨a, n1, hS.sa, a + 2, hS.r6, 7, hS.s2, vp_in_nI (by omega) (by omega), vp_in_nI (by omega) (by omega), e_Mg_give rfl ?_⟩, fun q => absurd q (by decide)⟩
    rw [nI_clamp (by omega), n6.2.2.2.2.2.1 k hk]
    have M1 : MdG (aw_uI (aw_uI S (a + 2) k (nI v)) 0 3 0).1 0 g := n7.fr n4.1 n4.2.2.2.2.1 (fun j _ => by rw [uI_ne _ _ _ (by omega), uI_ne _ _ _ (by omega)])
    have fin : Inv (aw_uI (aw_uI (aw_uI (aw_uI S (a + 2) k (nI v)) 0 3 0) 115 (10 + k) (nI v)) 114 2 0) := by
      refine hI.fin (S1 := aw_uI S (a + 2) k (nI v)) N ((FrI.refl _ S).uI _ (by unfold YI; omega)) ((FrI.refl _ _).uI _ (by unfold YI; omega)) (n4.col hv) rfl n5 n6.col (M1.col n4 hk) ?_
      rw [uI_at, if_pos rfl, if_neg (by omega), uI_ne _ _ _ (by omega), uI_ne _ _ _ (by omega), uI_ne _ _ _ (by omega)]
      exact n8
    refine e_Md_paint rfl (sp_Md_isDancer (d := 198) hM hn M1.1 (fun _ => ⟨fun q => absurd q (by decide), fun _ => sp_isFrom (y := 0) (z := 5) (by decide) (by decide) (fun _ => ⟨fun _ => ⟨115, hM.2.1, 3864, rfl, ?_⟩, fun q => absurd q (by decide)⟩) (fun z => absurd c z)⟩) (fun z => absurd hx z))
    rw [nB10, nI_clamp (by omega), M1.c5 hk]
    refine ⟨vp_in_nI (by omega) (by omega), e_Md_paints rfl ⟨115, hM.2.1, 3864, rfl, ?_⟩⟩
    rw [nB10, nI_clamp (by omega)]
    exact ⟨vp_in_nI (by omega) (by omega), fun _ => ⟨vp_in_nI (by omega) (by omega), e_Md_gives rfl ⟨rfl, fin⟩⟩, fun _ => ⟨vp_in_nI (by omega) (by omega), e_Md_gives rfl ⟨rfl, fin⟩⟩⟩
  · rw [if_neg c]
    refine ⟨fun q => absurd rfl q, fun _ => e_Mg_fail rfl (e_Md_paint rfl (sp_Md_isDancer (d := 198) hM hn (N.m3 _).1 (fun _ => ⟨fun q => absurd q (by decide), fun _ => sp_isFrom (y := 0) (z := 5) (by decide) (by decide) (fun z => absurd z c) (fun _ => ⟨fun q => absurd rfl q, fun _ => e_Md_refuse rfl ⟨rfl, hI.st rfl⟩⟩)⟩) (fun z => absurd hx z)))⟩
section TW
variable {l : Launch} {d : Nat} {S : aw_S} {a n : Nat}
theorem sp_Mg_areTwo {P : Int32 → aw_S → Prop} {x y : Int32} (ha : S.2.2 0 6 = some a) (sa : sh0[a]? = some (0, 2)) (hn : n ≤ 7) (h0 : S.1 a 0 = nI n) (h1 : InR x n → InR y n → x ≠ y → P 1 S) (h2 : ¬ (InR x n ∧ InR y n ∧ x ≠ y) → P 0 S) : Sp l m_Mg_areTwo (d + 1 + 1 + 1) 0 0 [.ref 0, .int x, .int y] sh0 S (gI sh0 P) := by
  refine e_Mg_areTwo rfl (sp_Mg_isDancer ha sa hn h0 (fun c1 => ⟨fun q => absurd q (by decide), fun _ => sp_Mg_isDancer ha sa hn h0 (fun c2 => ⟨fun q => absurd q (by decide), fun _ => ⟨fun q => h2 (fun z => z.2.2 q), fun q => h1 c1 c2 q⟩⟩) (fun c2 => ⟨fun _ => h2 (fun z => c2 z.2.1), fun q => absurd rfl q⟩)⟩) (fun c1 => ⟨fun _ => h2 (fun z => c1 z.1), fun q => absurd rfl q⟩))
theorem sp_Md_areTwo {P : Int32 → aw_S → Prop} {x y : Int32} (hS : MdS sh0 S.2.2) (hn : n ≤ 7) (h0 : S.1 115 0 = nI n) (h1 : InR x n → InR y n → x ≠ y → P 1 S) (h2 : ¬ (InR x n ∧ InR y n ∧ x ≠ y) → P 0 S) : Sp l m_Md_areTwo (d + 1 + 1) 0 0 [.ref 114, .int x, .int y] sh0 S (gI sh0 P) := by
  refine e_Md_areTwo rfl (sp_Md_isDancer hS hn h0 (fun c1 => ⟨fun q => absurd q (by decide), fun _ => sp_Md_isDancer hS hn h0 (fun c2 => ⟨fun q => absurd q (by decide), fun _ => ⟨fun q => h2 (fun z => z.2.2 q), fun q => h1 c1 c2 q⟩⟩) (fun c2 => ⟨fun _ => h2 (fun z => c2 z.2.1), fun q => absurd rfl q⟩)⟩) (fun c1 => ⟨fun _ => h2 (fun z => c1 z.1), fun q => absurd rfl q⟩))
end TW
theorem ok_trade (l : Launch) : Ok_trade l 0 114 sh0 Inv := by
  intro S hI x y
  obtain ⟨a, b, g, N⟩ := hI.now
  have hS := N.S hI.rf
  have hM := MdS.mk0 hI.rf
  have hab := N.ab
  obtain ⟨n1, n2, n3, n4, n5, n6, n7, n8, n9, n10⟩ := id N
  have hn : g.n ≤ 7 := n4.1
  refine e_Mg_trade rfl (sp_Mg_areTwo (d := 196) n1 hS.sa hn n6.1 (fun c1 c2 c3 => ⟨fun _ => ⟨a, n1, hS.sa, a + 2, hS.r6, 7, hS.s2, ?_⟩, fun q => absurd q (by decide)⟩) (fun c => ⟨fun q => absurd rfl q, fun _ => e_Mg_refuse rfl ⟨Or.inl rfl, e_Md_trade rfl (sp_Md_areTwo (d := 197) hM hn (N.m3 _).1 (fun z1 z2 z3 => absurd ⟨z1, z2, z3⟩ c) (fun _ => ⟨fun q => absurd rfl q, fun _ => sp_is1 (by decide) ⟨Or.inl rfl, rfl, hI.st rfl⟩⟩))⟩⟩))
  obtain ⟨k, hk, rfl⟩ := id c1
  obtain ⟨j, hj, rfl⟩ := id c2
  have hkj : k ≠ j := fun z => c3 (by rw [z])
  have ck := n4.2.2.2.2.2.2.1 k hk
  have cj := n4.2.2.2.2.2.2.1 j hj
  rw [nI_clamp (by omega), nI_clamp (by omega), n6.2.2.2.2.2.1 k hk, n6.2.2.2.2.2.1 j hj]
  refine ⟨vp_in_nI (by omega) (by omega), vp_in_nI (by omega) (by omega), fun q => ⟨vp_in_nI (by omega) (by omega), vp_in_nI (by omega) (by omega), vp_in_nI (by omega) (by omega), e_Mg_grant rfl ⟨Or.inr rfl, ?_⟩⟩, fun q => e_Mg_refuse rfl ⟨Or.inl rfl, ?_⟩⟩
  · have M1 : MdG (aw_uI (aw_uI (aw_uI S (a + 2) k (nI (g.col j))) (a + 2) j (nI (g.col k))) 0 3 0).1 0 g := n7.fr n4.1 n4.2.2.2.2.1 (fun j _ => by rw [uI_ne _ _ _ (by omega), uI_ne _ _ _ (by omega), uI_ne _ _ _ (by omega)])
    refine e_Md_trade rfl (sp_Md_areTwo (d := 197) hM hn M1.1 (fun _ _ _ => ⟨fun _ => ⟨115, hM.2.1, 3864, rfl, ?_⟩, fun q => absurd q (by decide)⟩) (fun c => absurd ⟨c1, c2, c3⟩ c))
    rw [nB10, nB10, nI_clamp (show 10 + k < 2 ^ 31 by omega), nI_clamp (show 10 + j < 2 ^ 31 by omega), M1.c5 hk, M1.c5 hj]
    refine ⟨vp_in_nI (by omega) (by omega), vp_in_nI (by omega) (by omega), fun _ => ⟨vp_in_nI (by omega) (by omega), vp_in_nI (by omega) (by omega), vp_in_nI (by omega) (by omega), sp_is0 ⟨Or.inr rfl, rfl, ?_⟩⟩, fun z => absurd z q⟩
    refine hI.fin (S1 := aw_uI (aw_uI S (a + 2) k (nI (g.col j))) (a + 2) j (nI (g.col k))) N (((FrI.refl _ S).uI _ (by unfold YI; omega)).uI _ (by unfold YI; omega)) (((FrI.refl _ _).uI _ (by unfold YI; omega)).uI _ (by unfold YI; omega)) ((n4.col (d := k) cj).col (d := j) ck) rfl n5 n6.col.col ((M1.col n4 hk).col (n4.col cj) hj) ?_
    rw [uI_at, if_pos rfl, if_neg (by omega), uI_at, if_pos rfl, if_neg (by omega), uI_ne _ _ _ (by omega), uI_ne _ _ _ (by omega), uI_ne _ _ _ (by omega), uI_ne _ _ _ (by omega), uI_ne _ _ _ (by omega)]
    exact n8
  · refine e_Md_trade rfl (sp_Md_areTwo (d := 197) hM hn (N.m3 _).1 (fun _ _ _ => ⟨fun _ => ⟨115, hM.2.1, 3864, rfl, ?_⟩, fun q => absurd q (by decide)⟩) (fun c => absurd ⟨c1, c2, c3⟩ c))
    rw [nB10, nB10, nI_clamp (show 10 + k < 2 ^ 31 by omega), nI_clamp (show 10 + j < 2 ^ 31 by omega), (N.m3 7).c5 hk, (N.m3 7).c5 hj]
    exact ⟨vp_in_nI (by omega) (by omega), vp_in_nI (by omega) (by omega), fun z => absurd q z, fun _ => sp_is1 (by decide) ⟨Or.inl rfl, rfl, hI.st rfl⟩⟩
set_option maxRecDepth 100000 in
theorem meet_w : ∀ n, n < 8 → ∀ p, p < n → ∀ q, q < n → (let w := (((nI p - nI q) + nI n) - ((nI p - nI q) + nI n) / nI n * nI n); let v := (if 0 ≤ nI p - nI q then nI p - nI q else -(nI p - nI q)); (if nI n - v < v then nI n - v else v) - 1 = (if nI n - w < w then nI n - w else w) - 1) := by decide +kernel
theorem sp_min {l : Launch} {d : Nat} {sh : aw_SH} {S : aw_S} {P : Int32 → aw_S → Prop} {x y : Int32} (h : P (if y < x then y else x) S) : Sp l m_Ma_min (d + 1) 0 0 [.int x, .int y] sh S (gI sh P) := by
  refine e_Ma_min ⟨fun q => ?_, fun q => ?_⟩
  · rw [if_pos q] at h; exact h
  · rw [if_neg q] at h; exact h
theorem sp_abs {l : Launch} {d : Nat} {sh : aw_SH} {S : aw_S} {P : Int32 → aw_S → Prop} {x : Int32} (h : P (if 0 ≤ x then x else -x) S) : Sp l m_Ma_abs (d + 1) 0 0 [.int x] sh S (gI sh P) := by
  refine e_Ma_abs ⟨fun q => ?_, fun q => ?_⟩
  · rw [if_pos q] at h; exact h
  · rw [if_neg q] at h; exact h
theorem ok_meet (l : Launch) : Ok_meet l 0 114 sh0 Inv := by
  intro S hI x y
  obtain ⟨a, b, g, N⟩ := hI.now
  have hS := N.S hI.rf
  have hM := MdS.mk0 hI.rf
  have hab := N.ab
  obtain ⟨n1, n2, n3, n4, n5, n6, n7, n8, n9, n10⟩ := id N
  have hn : g.n ≤ 7 := n4.1
  refine e_Mg_meet rfl (sp_Mg_areTwo (d := 196) n1 hS.sa hn n6.1 (fun c1 c2 c3 => ⟨fun _ => ⟨a, n1, hS.sa, a + 3, hS.r7, 7, hS.s3, ?_⟩, fun q => absurd q (by decide)⟩) (fun c => ⟨fun q => absurd rfl q, fun _ => e_Mg_fail rfl (e_Md_meet rfl (sp_Md_areTwo (d := 197) hM hn (N.m3 _).1 (fun z1 z2 z3 => absurd ⟨z1, z2, z3⟩ c) (fun _ => ⟨fun q => absurd rfl q, fun _ => e_Md_refuse rfl ⟨rfl, hI.st rfl⟩⟩)))⟩))
  obtain ⟨k, hk, rfl⟩ := id c1
  obtain ⟨j, hj, rfl⟩ := id c2
  obtain ⟨p, hp, rfl⟩ := std_inv n4 hk
  obtain ⟨q, hq, rfl⟩ := std_inv n4 hj
  rw [nI_clamp (by omega), nI_clamp (by omega), (n6.2.2.2.2.2.2.1 p hp).2, (n6.2.2.2.2.2.2.1 q hq).2]
  refine ⟨vp_in_nI (by omega) (by omega), vp_in_nI (by omega) (by omega), sp_abs ⟨a, n1, hS.sa, ?_⟩⟩
  rw [n6.1]
  refine sp_min (e_Mg_give rfl (e_Md_meet rfl (sp_Md_areTwo (d := 197) hM hn (N.m3 _).1 (fun _ _ _ => ⟨fun _ => ⟨115, hM.2.1, 3864, rfl, vp_in_nI (n := 0) (by omega) (by omega), sp_Md_placeOf (d := 198) hM n4 (N.m3 _) hp (sp_Md_placeOf (d := 198) hM n4 (N.m3 _) hq ?_)⟩, fun q => absurd q (by decide)⟩) (fun c => absurd ⟨c1, c2, c3⟩ c))))
  have e0 : (aw_uI S 0 3 0).1 115 (0 : Int32).toNatClampNeg = nI g.n := (N.m3 0).1
  rw [e0]
  refine ⟨nI_ne0 (by omega) (by omega), fun v hv => sp_min (e_Md_gives rfl ⟨?_, hI.st rfl⟩)⟩
  subst hv
  exact meet_w g.n (by omega) p hp q hq
