/-! homeward: the reference lays an order out -/
def biN (mask e : Nat) : Bool := Nat.beq (mask / 2 ^ e % 2) 1
def rmL (mask : Nat) : Nat → Nat → List Nat
  | 0, _ => []
  | k + 1, p => bif biN mask p then rmL mask k (p + 1) else p :: rmL mask k (p + 1)
/-- how many below e are not yet picked -/
def ctU (mask : Nat) : Nat → Nat
  | 0 => 0
  | e + 1 => bif biN mask e then ctU mask e else ctU mask e + 1
theorem bi_I : ∀ m, m < 128 → ∀ e, e < 7 → ((((nI m >>> (nI e &&& 31)) &&& (1 : Int32)) = 1 ↔ biN m e = true) ∧ (biN m e = true ∨ (nI m ||| ((1 : Int32) <<< (nI e &&& 31))) = nI (m + 2 ^ e))) := by decide +kernel
theorem rm_0 : ∀ n, n < 8 → rmL 0 n 0 = upL n 0 := by decide +kernel
theorem rm_w : ∀ n, n < 8 → ∀ m, m < 128 → ∀ i, i < 7 → (lnN (rmL m n 0) ≤ i ∨ (atL (rmL m n 0) i < n ∧ biN m (atL (rmL m n 0) i) = false ∧ ctU m (atL (rmL m n 0) i) = i ∧ m + 2 ^ atL (rmL m n 0) i < 128 ∧ erL (rmL m n 0) i = rmL (m + 2 ^ atL (rmL m n 0) i) n 0)) := by decide +kernel
theorem ct_mono (mask : Nat) : ∀ m e, ctU mask e ≤ ctU mask (e + m) := by
  intro m
  induction m with
  | zero => intro e; exact Nat.le_refl _
  | succ m ih =>
    intro e
    refine Nat.le_trans (ih e) ?_
    show ctU mask (e + m) ≤ (bif biN mask (e + m) then ctU mask (e + m) else ctU mask (e + m) + 1)
    cases biN mask (e + m) with
    | true => exact Nat.le_refl _
    | false => exact Nat.le_succ _
theorem fc_pos : ∀ k, 0 < fcN k := by
  intro k
  induction k with
  | zero => exact Nat.one_pos
  | succ k ih => exact Nat.mul_pos (Nat.succ_pos k) ih
theorem fc_le : ∀ k, k < 8 → fcN k ≤ 5040 := by decide +kernel
section HLY
variable {l : Launch} {d n : Nat} {S : aw_S}
theorem ly_46 {P : aw_S → Prop} {m i p lf : Nat} (hm : m < 128) (hR : RefsOk S.2.2) (hi : i < 7) (hp : p < 7) {D : Nat} (hD : D < 7) (h1 : biN m D = false) (h2 : ctU m D = i) (k : AW l m_Md_laysOrder (d + 2) 0 0 (gV sh0 P) 0 0 15 [.ref 114, .null, .int (nI n), .int (nI lf), .int (nI (m + 2 ^ D)), .int (nI (p + 1)), .null, .null, .null] [] sh0 (aw_uI S 127 p (nI D))) : AW l m_Md_laysOrder (d + 2) 0 0 (gV sh0 P) 0 0 46 [.ref 114, .null, .int (nI n), .int (nI lf), .int (nI m), .int (nI p), .null, .int (nI i), .int 0] [] sh0 S := by
  have key : ∀ q e, e + q = D → AW l m_Md_laysOrder (d + 2) 0 0 (gV sh0 P) 0 0 46 [.ref 114, .null, .int (nI n), .int (nI lf), .int (nI m), .int (nI p), .null, .int (nI (i - ctU m e)), .int (nI e)] [] sh0 S := by
    intro q
    induction q with
    | zero =>
      intro e he
      have he : e = D := he
      subst he
      have b := bi_I m hm e hD
      have b2 := b.2.resolve_left (by rw [h1]; decide)
      refine s_Md_laysOrder_46 rfl (sp_isInM (d := d) (b := biN m e) b.1 (fun y => ?_) (fun _ => ⟨fun y => absurd rfl y, fun _ => ⟨fun _ => ⟨127, hR.at (by decide), 7, rfl, vp_in_nI hp (by omega), ?_⟩, fun y => ?_⟩⟩))
      · rw [h1] at y
        exact absurd y (by decide)
      · rw [b2, nI_1, nI_clamp (by omega)]
        exact k
      · rw [h2, Nat.sub_self] at y
        exact absurd (by decide) y
    | succ q ih =>
      intro e he
      have ih := ih (e + 1) (by omega)
      have b := bi_I m hm e (by omega)
      have mono := ct_mono m q (e + 1)
      rw [show e + 1 + q = D by omega, h2] at mono
      cases c : biN m e with
      | true =>
        have ec : ctU m (e + 1) = ctU m e := by
          show (bif biN m e then ctU m e else ctU m e + 1) = _
          rw [c]; rfl
        rw [ec] at ih
        refine s_Md_laysOrder_46 rfl (sp_isInM (d := d) (b := biN m e) b.1 (fun _ => ⟨fun _ => sp_isInM (d := d) (b := biN m e) b.1 (fun _ => ⟨fun y => absurd y (by decide), fun _ => ?_⟩) (fun y => ?_), fun y => absurd y (by decide)⟩) (fun y => ?_))
        · rw [Int32.sub_zero, nI_1]
          exact ih
        · rw [c] at y
          exact absurd y (by decide)
        · rw [c] at y
          exact absurd y (by decide)
      | false =>
        have ec : ctU m (e + 1) = ctU m e + 1 := by
          show (bif biN m e then ctU m e else ctU m e + 1) = _
          rw [c]; rfl
        rw [ec] at ih mono
        refine s_Md_laysOrder_46 rfl (sp_isInM (d := d) (b := biN m e) b.1 (fun y => ?_) (fun _ => ⟨fun y => absurd rfl y, fun _ => ⟨fun y => ?_, fun _ => sp_isInM (d := d) (b := biN m e) b.1 (fun y => ?_) (fun _ => ⟨fun _ => ?_, fun y => absurd rfl y⟩)⟩⟩))
        · rw [c] at y
          exact absurd y (by decide)
        · exact absurd y (nI_nle (by omega) (by omega))
        · rw [c] at y
          exact absurd y (by decide)
        · rw [show i - ctU m e = i - (ctU m e + 1) + 1 by omega, nI_pred, nI_1]
          exact ih
  have k0 := key D 0 (by omega)
  exact k0
theorem sp_laysOrder {P : aw_S → Prop} {w : Nat} (hn : n ≤ 7) (hR : RefsOk S.2.2) (h0 : S.1 115 0 = nI n) (hw : w < fcN n) (k : ∀ S', FrI HO S S' → (∀ p, p < n → S'.1 127 p = nI (atL (lyL n w (upL n 0)) p)) → P S') : Sp l m_Md_laysOrder (d + 2) 0 0 [.ref 114, .int (nI w)] sh0 S (gV sh0 P) := by
  have key : ∀ q p w' m W, p + q = n → w' < fcN q → m < 128 → lnN (rmL m n 0) = q → FrI HO S W → (∀ j, j < p → W.1 127 j = nI (atL (lyL n w (upL n 0)) j)) → (∀ j, j < q → atL (lyL n w (upL n 0)) (p + j) = atL (lyL q w' (rmL m n 0)) j) → AW l m_Md_laysOrder (d + 2) 0 0 (gV sh0 P) 0 0 15 [.ref 114, .null, .int (nI n), .int (nI w'), .int (nI m), .int (nI p), .null, .null, .null] [] sh0 W := by
    intro q
    induction q with
    | zero =>
      intro p w' m W hp _ _ _ F c _
      have hp : p = n := hp
      subst hp
      exact s_Md_laysOrder_15 rfl ⟨fun _ => k W F c, fun z => absurd (Int32.le_refl _) z⟩
    | succ q ih =>
      intro p w' m W hp hw' hm hl F c hx
      have fp := fc_pos q
      have fl := fc_le q (by omega)
      have fs : fcN (q + 1) = fcN q * (q + 1) := Nat.mul_comm _ _
      have hRW : RefsOk W.2.2 := by rw [F.R]; exact hR
      have pk : w' / fcN q < q + 1 := Nat.div_lt_of_lt_mul (by rw [← fs]; exact hw')
      have wl : w' < 2 ^ 31 := by have := fc_le (q + 1) (by omega); omega
      obtain ⟨r1, r2, r3, r4, r5⟩ := (rm_w n (by omega) m hm (w' / fcN q) (by omega)).resolve_left (by omega)
      refine s_Md_laysOrder_15 rfl ⟨fun z => absurd ((nI_leI (by omega) (by omega)).mp z) (by omega), fun _ => ?_⟩
      rw [pk_sub (by omega), show n - p = q + 1 by omega, nI_pred]
      refine sp_ordersOf (d := d) (by omega) ⟨nI_ne0 fp (by omega), nI_ne0 fp (by omega), ?_⟩
      rw [pk_rem wl fp (by omega), pk_div wl fp (by omega)]
      have x0 : atL (lyL n w (upL n 0)) p = atL (rmL m n 0) (w' / fcN q) := hx 0 (by omega)
      refine ly_46 (D := atL (rmL m n 0) (w' / fcN q)) hm hRW (by omega) (by omega) (by omega) r2 r3 (ih (p + 1) (w' % fcN q) _ _ (by omega) (Nat.mod_lt _ fp) r4 ?_ (F.uI _ (show HO 127 _ from rfl)) (fun j hj => ?_) (fun j hj => ?_))
      · have := erL_ln (rem := rmL m n 0) (i := w' / fcN q) (by omega)
        rw [← r5]
        omega
      · rw [uI_at, if_pos rfl]
        by_cases e : j = p
        · rw [if_pos e, e, x0]
        · rw [if_neg e]; exact c j (by omega)
      · have := hx (j + 1) (by omega)
        rw [← r5, show p + 1 + j = p + (j + 1) by omega]
        exact this
  have e0 : S.1 115 (0 : Int32).toNatClampNeg = nI n := h0
  refine e_Md_laysOrder rfl ⟨115, hR.at (by decide), 3864, rfl, vp_in_nI (n := 0) (by omega) (by omega), ?_⟩
  rw [e0]
  have r0 := rm_0 n (by omega)
  have l0 : lnN (upL n 0) = n := (isO.home n).ln
  exact key n 0 w 0 S (by omega) hw (by omega) (by rw [r0]; exact l0) (FrI.refl _ S) (fun j hj => absurd hj (Nat.not_lt_zero j)) (fun j _ => by rw [r0, Nat.zero_add])
end HLY
