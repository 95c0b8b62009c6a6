/-! what is taken of a text: by the reference -/
def FX (k j : Nat) : Prop := k = 114 ∧ ((12 ≤ j ∧ j ≤ 15) ∨ j = 17 ∨ j = 18)
def TmG (T : aw_S) (B : Nat → Nat) (L : Nat) (t : TK) : Prop := TxM T B L ∧ TmR T B t ∧ TkW B L t ∧ T.1 114 18 = 0 ∧ T.1 114 17 = -1
def FtM (T : aw_S) (f : Nat × Nat) : Prop := T.1 114 18 = nI f.1 ∧ T.1 114 17 = nI f.2
theorem TmG.fr {T T' : aw_S} {B : Nat → Nat} {L : Nat} {t : TK} (h : TmG T B L t) (h1 : ∀ j, (11 ≤ j ∧ j ≤ 18) → T'.1 114 j = T.1 114 j) (h2 : T'.1 121 = T.1 121) (h3 : T'.2.2 = T.2.2) : TmG T' B L t := by
  obtain ⟨⟨x1, x2, x3, x4⟩, ⟨c1, c2, c3, c4, c5⟩, w, f0, f1⟩ := h
  refine ⟨⟨by rw [h3]; exact x1, by rw [h1 11 (by omega)]; exact x2, x3, fun j hj => by rw [h2]; exact x4 j hj⟩, ⟨by rw [h1 12 (by omega)]; exact c1, by rw [h1 13 (by omega)]; exact c2, by rw [h1 14 (by omega)]; exact c3, fun z => by rw [h1 15 (by omega)]; exact c4 z, fun z => by rw [h1 15 (by omega)]; exact c5 z⟩, w, by rw [h1 18 (by omega)]; exact f0, by rw [h1 17 (by omega)]; exact f1⟩
theorem km_i {k c : Nat} (hk : k ≤ 4) (hc : c ≤ 4) : kmN k = kmN c ↔ k = c := by
  have h : ∀ k, k < 5 → ∀ c, c < 5 → (kmN k = kmN c ↔ k = c) := by decide
  exact h k (by omega) c (by omega)
theorem km_4 {k : Nat} (hk : k ≤ 4) : kmN k ≤ 4 := by
  have h : ∀ k, k < 5 → kmN k ≤ 4 := by decide
  exact h k (by omega)
theorem sh8 {a c : Nat} (ha : a < 2 ^ 55) (hc : c < 256) : (lN a <<< (((8) : Int32).toInt64 &&& 63)) ||| (nI c).toInt64 = lN (a * 256 + c) := by
  rw [nI_l (by omega), show ((8 : Int32).toInt64 &&& 63) = ((nI 8).toInt64 &&& 63) from rfl, wb_shl a (k := 8) (by omega), show (2 : Nat) ^ 8 = 256 from rfl]
  exact g_or (k := 8) rfl (by omega) (by omega)
section TKM
variable {l : Launch} {d : Nat} {B : Nat → Nat} {L : Nat} {S : aw_S} {t : TK} {α : Type}
theorem TmR.is (c : TmR S B t) (w : TkW B L t) {q : Nat} (hq : q ≤ 4) : S.1 114 12 = nI (kmN q) ↔ t.k = q := by
  have w3 := w.2.2.1
  have a := km_4 w3
  have b := km_4 hq
  rw [c.1, nI_inj (by omega) (by omega)]
  exact km_i w3 hq
theorem sp_aheadM {P : aw_S → Prop} (h : TmG S B L t) (k : ∀ S', FrI AX S S' → TmG S' B L (tkF B L t.e) → P S') : Sp l m_Md_ahead (d + 1 + 1) 0 0 [.ref 114] sh0 S (gV sh0 P) := by
  obtain ⟨x, c, w, f0, f1⟩ := h
  refine sp_ahead x c.2.2.1 w.2.1 (fun S' F T => k S' F ⟨x.fr F, T, (tkF_ok w.2.1).1, (F.1 114 18 (by unfold AX; omega)).trans f0, (F.1 114 17 (by unfold AX; omega)).trans f1⟩)
theorem sp_failsM {P : Int32 → aw_S → Prop} {k0 : Nat} (h : TmG S B L t) (k : ∀ S', FrI FX S S' → FtM S' (blF k0 t) → P 0 S') : Sp l m_Md_fails (d + 1) 0 0 [.ref 114, .int (nI k0)] sh0 S (gI sh0 P) := by
  obtain ⟨x, c, w, f0, f1⟩ := h
  have is4 := c.is w (q := 4) (by omega)
  refine e_Md_fails rfl ⟨fun z => absurd f0 z, fun _ => ⟨fun z => k _ (((FrI.refl _ S).uI _ ⟨rfl, by omega⟩).uI _ ⟨rfl, by omega⟩) ⟨?_, ?_⟩, fun z => k _ (((FrI.refl _ S).uI _ ⟨rfl, by omega⟩).uI _ ⟨rfl, by omega⟩) ⟨?_, ?_⟩⟩⟩
  · rw [uI_at, if_pos rfl, if_neg (by decide), uI_at, if_pos rfl, if_pos rfl]
    unfold blF
    rw [if_neg (fun y => z (is4.mpr y))]
  · rw [uI_at, if_pos rfl, if_pos rfl, uI_at, if_pos rfl, if_neg (by decide)]
    exact c.2.1
  · rw [uI_at, if_pos rfl, if_neg (by decide), uI_at, if_pos rfl, if_pos rfl]
    unfold blF
    rw [if_pos (is4.mp z)]
    rfl
  · rw [uI_at, if_pos rfl, if_pos rfl, uI_at, if_pos rfl, if_neg (by decide)]
    exact c.2.1
theorem AXF {S S' : aw_S} (F : FrI AX S S') : FrI FX S S' := F.mono (fun k j q => by unfold AX at q; unfold FX; omega)
theorem sp_numberM {P : Int32 → aw_S → Prop} {lo hi to : Nat} {x : Int32} (hx : x = nI hi - 1) (hh : hi ≤ 100) (hl0 : lo ≤ 100) (hto : to < 3864) (hR : S.2.2 114 0 = some 115) (h : TmG S B L t)
    (kf : ∀ f, (∀ F : Nat → TK → RsT α, nuK B L t lo hi F = .inl f) → ∀ S', FrI FX S S' → FtM S' f → P 0 S')
    (ks : ∀ v, lo ≤ v → v < hi → (∀ F : Nat → TK → RsT α, nuK B L t lo hi F = F v (tkF B L t.e)) → ∀ S', FrI FX (aw_uI S 115 to (nI v)) S' → TmG S' B L (tkF B L t.e) → P 1 S') : Sp l m_Md_number (d + 1 + 1 + 1) 0 0 [.ref 114, .int (nI to), .int (nI lo), .int x] sh0 S (gI sh0 P) := by
  obtain ⟨-, c, w, -⟩ := id h
  have is2 := c.is w (q := 2) (by omega)
  refine e_Md_number rfl ⟨fun z => ?_, fun z => ?_⟩
  · have c2 : t.k = 2 := is2.mp z
    have e4 := c.2.2.2.1 c2
    have lt := nv_lt w c2
    rw [e4]
    have bad : ¬ (lo ≤ nvL B t.b (t.e - t.b) ∧ nvL B t.b (t.e - t.b) < hi) → Sp l m_Md_fails (d + 1 + 1) 0 0 [.ref 114, .int 4] sh0 S (gI sh0 (fun x4 S3 => ((x4 = 0 ∨ x4 = 1) ∧ P x4 S3))) := by
      intro q
      refine sp_failsM (k0 := 4) h (fun S' F T => ⟨Or.inl rfl, kf _ (fun F => ?_) S' F T⟩)
      unfold nuK
      rw [if_pos c2, if_neg q]
    refine ⟨fun y => bad (fun q => ?_), fun y => ⟨fun y2 => ⟨115, hR, 3864, rfl, vp_in_nI hto (by omega), ?_⟩, fun y2 => bad (fun q => y2 ?_)⟩⟩
    · have := (nI_ltI (by omega) (by omega)).mp y
      omega
    · have q : lo ≤ nvL B t.b (t.e - t.b) ∧ nvL B t.b (t.e - t.b) < hi := by
        refine ⟨?_, ?_⟩
        · have : ¬ nvL B t.b (t.e - t.b) < lo := fun z => y (nI_lt z (by omega))
          omega
        · by_cases h0 : hi = 0
          · rw [hx, h0, iM_0] at y2
            exact absurd y2 (i_neg m1_lt _ (by omega)).2.2.2
          · rw [hx, show hi = hi - 1 + 1 by omega, nI_pred] at y2
            have := (nI_leI (by omega) (by omega)).mp y2
            omega
      rw [nI_clamp (by omega)]
      have h' : TmG (aw_uI S 115 to (nI (nvL B t.b (t.e - t.b)))) B L t := h.fr (fun j _ => by rw [uI_ne _ _ _ (by decide)]) (uI_ne _ _ _ (by decide)) rfl
      refine sp_aheadM h' (fun S' F T => ks _ q.1 q.2 (fun F => ?_) S' (AXF F) T)
      unfold nuK
      rw [if_pos c2, if_pos q]
    · rw [hx, show hi = hi - 1 + 1 by omega, nI_pred]
      exact nI_le (by omega) (by omega)
  · have c2 : ¬ t.k = 2 := fun y => z (is2.mpr y)
    refine sp_failsM (k0 := 2) h (fun S' F T => ⟨Or.inl rfl, kf _ (fun F => ?_) S' F T⟩)
    unfold nuK
    rw [if_neg c2]
theorem sp_wantSign {P : Int32 → aw_S → Prop} (h : TmG S B L t)
    (kf : ∀ f, (∀ F : TK → RsT α, seK B L t F = .inl f) → ∀ S', FrI FX S S' → FtM S' f → P 0 S')
    (ks : (∀ F : TK → RsT α, seK B L t F = F (tkF B L t.e)) → ∀ S', FrI FX S S' → TmG S' B L (tkF B L t.e) → P 1 S') : Sp l m_Md_wantSign (d + 1 + 1 + 1) 0 0 [.ref 114, .int 59] sh0 S (gI sh0 P) := by
  obtain ⟨-, c, w, -⟩ := id h
  have is3 := c.is w (q := 3) (by omega)
  have bad : ¬ (t.k = 3 ∧ B t.b = 59) → Sp l m_Md_fails (d + 1 + 1) 0 0 [.ref 114, .int 2] sh0 S (gI sh0 (fun x6 S5 => ((x6 = 0 ∨ x6 = 1) ∧ P x6 S5))) := by
    intro q
    refine sp_failsM (k0 := 2) h (fun S' F T => ⟨Or.inl rfl, kf _ (fun F => ?_) S' F T⟩)
    unfold seK
    rw [if_neg q]
  refine e_Md_wantSign rfl (e_Md_isSign rfl ⟨fun z => ⟨fun y => absurd rfl y, fun _ => bad (fun q => z (is3.mpr q.1))⟩, fun z => ⟨fun z2 => ⟨fun y => absurd rfl y, fun _ => bad (fun q => z2 ?_)⟩, fun z2 => ⟨fun _ => sp_aheadM h (fun S' F T => ks (fun F => ?_) S' (AXF F) T), fun y => absurd y (by decide)⟩⟩⟩)
  · rw [c.2.2.2.2 q.1, q.2]
    rfl
  · have c3 := is3.mp z
    rw [c.2.2.2.2 c3] at z2
    have b4 := w.2.2.2.2.2.2.1 c3
    unfold seK
    rw [if_pos ⟨c3, (nI_inj (b := 59) (by omega) (by omega)).mp z2⟩]
theorem rm_eq {w0 : Nat} (hw : w0 < 19) : rmI (rwT B t) = nI (pmN w0) ↔ rwT B t = some w0 := by
  have a := (pc_ok w0 hw).2.2
  cases e : rwT B t with
  | none => exact ⟨fun z => absurd z.symm (nI_ne_m1 (by omega)), fun z => by cases z⟩
  | some i =>
    have hi := (rwT_lt e).1
    have b := (pc_ok i hi).2.2
    refine ⟨fun z => ?_, fun z => by rw [Option.some.inj z]; rfl⟩
    have z : nI (pmN i) = nI (pmN w0) := z
    have z := (nI_inj (by omega) (by omega)).mp z
    have b2 := b.2.1
    rw [z, a.2.1] at b2
    rw [b2]
theorem rm_no : rmI (rwT B t) = -1 ↔ rwT B t = none := by
  cases e : rwT B t with
  | none => exact ⟨fun _ => rfl, fun _ => rfl⟩
  | some i =>
    have hi := (rwT_lt e).1
    have b := (pc_ok i hi).2.2.1
    exact ⟨fun z => absurd (show nI (pmN i) = -1 from z) (nI_ne_m1 (by omega)), fun z => by cases z⟩
theorem sp_wantWord {P : Int32 → aw_S → Prop} {w0 : Nat} {x : Int32} (hw : w0 < 19) (hx : x = nI (pmN w0)) (h : TmG S B L t)
    (kf : ∀ f, (∀ F : TK → RsT α, rsK B L w0 t F = .inl f) → ∀ S', FrI FX S S' → FtM S' f → P 0 S')
    (ks : (∀ F : TK → RsT α, rsK B L w0 t F = F (tkF B L t.e)) → ∀ S', FrI FX S S' → TmG S' B L (tkF B L t.e) → P 1 S') : Sp l m_Md_wantWord (d + 6) 0 0 [.ref 114, .float 2, .int x] sh0 S (gI sh0 P) := by
  obtain ⟨x1, c, w, -⟩ := id h
  refine e_Md_wantWord rfl (Or.inr rfl) (sp_inWords x1 w c ⟨fun z => sp_aheadM h (fun S' F T => ks (fun F => ?_) S' (AXF F) T), fun z => sp_failsM (k0 := 2) h (fun S' F T => ⟨Or.inl rfl, kf _ (fun F => ?_) S' F T⟩)⟩)
  · rw [hx] at z
    unfold rsK
    rw [if_pos ((rm_eq hw).mp z)]
  · unfold rsK
    rw [if_neg (fun y => z (by rw [hx]; exact (rm_eq hw).mpr y))]
theorem sp_isNameM {P : Int32 → aw_S → Prop} (h : TmG S B L t) (k1 : isN B t → P 1 S) (k0 : ¬ isN B t → P 0 S) : Sp l m_Md_isName (d + 6) 0 0 [.ref 114, .float 2] sh0 S (gI sh0 P) := by
  obtain ⟨x, c, w, -⟩ := id h
  have is1 := c.is w (q := 1) (by omega)
  have hL := x.2.2.1
  have w2 := w.2.1
  refine e_Md_isName rfl (Or.inr rfl) ⟨fun z => k0 (fun y => z (is1.mpr y.1)), fun z => ?_⟩
  rw [c.2.1, c.2.2.1, nI_sub w.1]
  refine ⟨fun y => k0 (fun q => ?_), fun y => sp_inWords x w c ⟨fun q => k0 (fun q2 => q (rm_no.mpr q2.2.2)), fun q => k1 ⟨is1.mp z, ?_, rm_no.mp q⟩⟩⟩
  · have := (nI_ltI (a := 8) (by omega) (by omega)).mp y
    have := q.2.1
    omega
  · apply Classical.byContradiction
    intro q2
    exact y (nI_lt (a := 8) (by omega) (by omega))
theorem sp_nameHere {P : Int64 → aw_S → Prop} (h : TmG S B L t) (hn : t.k = 1 ∧ t.e - t.b ≤ 8) (k : P (lN (p8 (wdT B t))) S) : Sp l m_Md_nameHere (d + 1 + 1) 0 0 [.ref 114] sh0 S (gL sh0 P) := by
  obtain ⟨x, c, w, -⟩ := id h
  have hL := x.2.2.1
  have wb := w.1
  have we := w.2.1
  have hw := w.2.2.2.2.1 hn.1
  have key : ∀ m r, r + m = t.e - t.b → AW l m_Md_nameHere (d + 1 + 1) 0 0 (gL sh0 P) 0 0 7 [.ref 114, .long (lN (p8 (wdL B t.b r))), .null, .int (nI (t.b + r))] [] sh0 S := by
    intro m
    induction m with
    | zero =>
      intro r hr
      refine s_Md_nameHere_7 rfl ⟨fun _ => ?_, fun z => absurd ?_ z⟩
      · have hr : r = t.e - t.b := hr
        rw [hr]
        exact k
      · rw [c.2.2.1]
        exact nI_le (by omega) (by omega)
    | succ m ih =>
      intro r hr
      have lt := p8_lt (wdL B t.b r) (wdL_in r (fun j q1 q2 => hw j q1 (by omega)))
      rw [wdL_len] at lt
      have lt2 : (256 : Nat) ^ r ≤ 256 ^ 7 := Nat.pow_le_pow_right (by decide) (by omega)
      have hb := hw (t.b + r) (by omega) (by omega)
      refine s_Md_nameHere_7 rfl ⟨fun z => ?_, fun _ => sp_byteAt x (by omega) ?_⟩
      · rw [c.2.2.1] at z
        exact absurd ((nI_leI (by omega) (by omega)).mp z) (by omega)
      · have eb : byN B L (t.b + r) = nI (B (t.b + r)) := if_pos (by omega)
        rw [eb, sh8 (by omega) (by omega), nI_1]
        exact ih (r + 1) (by omega)
  have := key (t.e - t.b) 0 (by omega)
  refine e_Md_nameHere rfl ?_
  rw [c.2.1]
  exact this
theorem sp_findHere {P : Int32 → aw_S → Prop} {base n : Nat} {nm : Nat → List Nat} (hR : S.2.2 114 1 = some 116) (hbase : base ≤ 28) (hn : n ≤ 7) (hnm : ∀ d, d < n → S.2.1 116 (base + d) = lN (p8 (nm d)) ∧ okW (nm d)) (h : TmG S B L t) (hi : isN B t) (k : P (oI (nmF nm (wdT B t) n 0)) S) : Sp l m_Md_findHere (d + 1 + 1 + 1) 0 0 [.ref 114, .int (nI base), .int (nI n)] sh0 S (gI sh0 P) := by
  obtain ⟨x, c, w, -⟩ := id h
  have ow : okW (wdT B t) := ⟨by unfold wdT; rw [wdL_len]; exact hi.2.1, wdT_in w hi.1⟩
  have key : ∀ j i, i + j = n → P (oI (nmF nm (wdT B t) j i)) S → AW l m_Md_findHere (d + 1 + 1 + 1) 0 0 (gI sh0 P) 0 0 2 [.ref 114, .int (nI base), .int (nI n), .int (nI i)] [] sh0 S := by
    intro j
    induction j with
    | zero =>
      intro i hi2 hp
      exact s_Md_findHere_2 rfl ⟨fun _ => hp, fun z => absurd (nI_le (by omega) (by omega)) z⟩
    | succ j ih =>
      intro i hi2 hp
      obtain ⟨e, o1, o2⟩ := hnm i (by omega)
      refine s_Md_findHere_2 rfl ⟨fun z => absurd ((nI_leI (by omega) (by omega)).mp z) (by omega), fun _ => ⟨116, hR, 42, rfl, ?_⟩⟩
      rw [nI_add, nI_clamp (by omega), e, nI_1]
      refine ⟨vp_in_nI (by omega) (by omega), sp_nameHere h ⟨hi.1, hi.2.1⟩ ?_⟩
      rw [lg_eqv]
      have a1 := p8_63 o1 o2
      have a2 := p8_63 ow.1 ow.2
      have eq : lN (p8 (nm i)) = lN (p8 (wdT B t)) ↔ nm i = wdT B t := by
        rw [pk_lEQ a1 a2]
        exact ⟨fun z => p8_inj _ _ o2 ow.2 z, fun z => by rw [z]⟩
      unfold nmF at hp
      refine ⟨fun z => ih (i + 1) (by omega) ?_, fun z => ?_⟩
      · rw [if_neg (fun y => z (eq.mpr y))] at hp
        exact hp
      · rw [if_pos (eq.mp z)] at hp
        exact hp
  exact e_Md_findHere rfl (key n 0 (by omega) k)
theorem sp_gapTo {P : Int32 → aw_S → Prop} {s0 to n : Nat} (hR : MdS sh0 S.2.2) (hs : s0 < 3800) (hn : n ≤ 7) (h0 : S.1 115 s0 = nI n) (hto : to < 3864) (h : TmG S B L t)
    (kf : ∀ f, (∀ F : Nat → TK → RsT α, nuK B L t 0 (gpN n) F = .inl f) → ∀ S', FrI FX S S' → FtM S' f → P 0 S')
    (ks : ∀ v, v < gpN n → (∀ F : Nat → TK → RsT α, nuK B L t 0 (gpN n) F = F v (tkF B L t.e)) → ∀ S', FrI FX (aw_uI S 115 to (nI v)) S' → TmG S' B L (tkF B L t.e) → P 1 S') : Sp l m_Md_gapTo (d + 4) 0 0 [.ref 114, .int (nI s0), .int (nI to)] sh0 S (gI sh0 P) := by
  have hg := gp_le n
  refine e_Md_gapTo rfl (sp_Md_gapsOf hR hs hn h0 (sp_numberM (lo := 0) (hi := gpN n) (α := α) rfl (by omega) (by omega) hto hR.2.1 h (fun f hf S' F T => ⟨Or.inl rfl, kf f hf S' F T⟩) (fun v _ v2 hf S' F T => ⟨Or.inr rfl, ks v v2 hf S' F T⟩)))
theorem sp_howTo {P : Int32 → aw_S → Prop} {to : Nat} (hR : S.2.2 114 0 = some 115) (hto : to < 3864) (h : TmG S B L t) (k1 : rwT B t = some 5 → P 1 (aw_uI S 115 to 1)) (k0 : ¬ rwT B t = some 5 → rwT B t = some 6 → P 1 (aw_uI S 115 to 0)) (kn : ¬ rwT B t = some 5 → ¬ rwT B t = some 6 → ∀ S', FrI FX S S' → FtM S' (blF 2 t) → P 0 S') : Sp l m_Md_howTo (d + 6) 0 0 [.ref 114, .int (nI to)] sh0 S (gI sh0 P) := by
  obtain ⟨x, c, w, -⟩ := id h
  have e5 := rm_eq (B := B) (t := t) (w0 := 5) (by omega)
  have e6 := rm_eq (B := B) (t := t) (w0 := 6) (by omega)
  have hv : vp_in (nI to) 3864 := vp_in_nI hto (by omega)
  have hcl : (nI to).toNatClampNeg = to := nI_clamp (by omega)
  refine e_Md_howTo rfl (sp_inWords x w c ?_)
  rw [hcl]
  refine ⟨fun z => ⟨115, hR, fun y => absurd z y, fun _ => ⟨3864, rfl, hv, k1 (e5.mp z)⟩⟩, fun z => ⟨fun z2 => ⟨115, hR, fun _ => ⟨3864, rfl, hv, k0 (fun y => z (e5.mpr y)) (e6.mp z2)⟩, fun y => absurd y z⟩, fun z2 => sp_failsM (k0 := 2) h (fun S' F T => ⟨Or.inl rfl, kn (fun y => z (e5.mpr y)) (fun y => z2 (e6.mpr y)) S' F T⟩)⟩⟩
end TKM
