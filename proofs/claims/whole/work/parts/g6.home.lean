/-! homeward: the reference's orders -/
def HO (k _j : Nat) : Prop := k = 127
def ltS (x : List Nat) (a : Nat) : Nat → Nat → Nat
  | 0, _ => 0
  | k + 1, o => (if atL x o < a then 1 else 0) + ltS x a k (o + 1)
def nuS (x : List Nat) : Nat → Nat → Nat → Nat
  | 0, _, c => c
  | k + 1, p, c => nuS x k (p + 1) (c * (k + 1) + ltS x (atL x p) k (p + 1))
theorem ltC_S {x : List Nat} {a : Nat} : ∀ (r : List Nat) (o : Nat), (∀ j, j < lnN r → atL r j = atL x (o + j)) → ltC a r = ltS x a (lnN r) o := by
  intro r
  induction r with
  | nil => intro o _; rfl
  | cons b r ih =>
    intro o h
    have e0 : b = atL x o := h 0 (Nat.succ_pos _)
    have ih := ih (o + 1) (fun j hj => by
      have := h (j + 1) (Nat.succ_lt_succ hj)
      rw [show o + 1 + j = o + (j + 1) by omega]
      exact this)
    show (bif Nat.blt b a then ltC a r + 1 else ltC a r) = (if atL x o < a then 1 else 0) + ltS x a (lnN r) (o + 1)
    rw [ih, e0]
    by_cases c : atL x o < a
    · rw [if_pos c, show Nat.blt (atL x o) a = true from Nat.ble_eq_true_of_le c]
      show ltS x a (lnN r) (o + 1) + 1 = _
      omega
    · rw [if_neg c]
      cases q : Nat.blt (atL x o) a with
      | true => exact absurd (Nat.le_of_ble_eq_true q) c
      | false => show ltS x a (lnN r) (o + 1) = _; omega
theorem nuL_S {x : List Nat} : ∀ (r : List Nat) (p c : Nat), (∀ j, j < lnN r → atL r j = atL x (p + j)) → nuL r c = nuS x (lnN r) p c := by
  intro r
  induction r with
  | nil => intro p c _; rfl
  | cons b r ih =>
    intro p c h
    have e0 : b = atL x p := h 0 (Nat.succ_pos _)
    have h' : ∀ j, j < lnN r → atL r j = atL x (p + 1 + j) := fun j hj => by
      have := h (j + 1) (Nat.succ_lt_succ hj)
      rw [show p + 1 + j = p + (j + 1) by omega]
      exact this
    show nuL r (c * (lnN r + 1) + ltC b r) = nuS x (lnN r) (p + 1) (c * (lnN r + 1) + ltS x (atL x p) (lnN r) (p + 1))
    rw [ih (p + 1) _ h', ltC_S r (p + 1) h', e0]
theorem nu_all (x : List Nat) : nuL x 0 = nuS x (lnN x) 0 0 := nuL_S x 0 0 (fun j _ => by rw [Nat.zero_add])
section HRF
variable {l : Launch} {d n : Nat} {S : aw_S} {x : List Nat}
theorem sp_ordersOf {P : Int32 → aw_S → Prop} (hn : n ≤ 7) (h : P (nI (fcN n)) S) : Sp l m_Md_ordersOf (d + 1) 0 0 [.int (nI n)] sh0 S (gI sh0 P) := by
  have key : ∀ m k, k + m = n → 1 ≤ k → AW l m_Md_ordersOf (d + 1) 0 0 (gI sh0 P) 0 0 4 [.int (nI n), .int (nI (fcN k)), .int (nI (k + 1))] [] sh0 S := by
    intro m
    induction m with
    | zero =>
      intro k hk _
      have hk : k = n := hk
      subst hk
      exact s_Md_ordersOf_4 ⟨fun _ => h, fun z => absurd (nI_lt (by omega) (by omega)) z⟩
    | succ m ih =>
      intro k hk h1
      refine s_Md_ordersOf_4 ⟨fun z => absurd ((nI_ltI (by omega) (by omega)).mp z) (by omega), fun _ => ?_⟩
      rw [pk_mul, nI_1, show fcN k * (k + 1) = fcN (k + 1) from Nat.mul_comm _ _]
      exact ih (k + 1) (by omega) (by omega)
  by_cases c : n = 0
  · subst c
    exact e_Md_ordersOf (s_Md_ordersOf_4 ⟨fun _ => h, fun z => absurd (by decide) z⟩)
  · exact e_Md_ordersOf (key (n - 1) 1 (by omega) (by omega))
theorem sp_turnsOrder {P : aw_S → Prop} {g : Nat} (hn : n ≤ 7) (hR : RefsOk S.2.2) (h0 : S.1 115 0 = nI n) (hl : lnN x = n) (hg : g < gpN n) (hc : ∀ p, p < n → S.1 127 p = nI (atL x p)) (k : ∀ S', FrI HO S S' → (∀ p, p < n → S'.1 127 p = nI (atL (swL n x g) p)) → P S') : Sp l m_Md_turnsOrder (d + 1) 0 0 [.ref 114, .int (nI g)] sh0 S (gV sh0 P) := by
  obtain ⟨h1, h2, h3, h4⟩ := gp_nx hg
  have e0 : S.1 115 (0 : Int32).toNatClampNeg = nI n := h0
  have vg : vp_in (nI g) 7 := vp_in_nI (by omega) (by omega)
  have vh : vp_in (nI ((g + 1) % n)) 7 := vp_in_nI (by omega) (by omega)
  refine e_Md_turnsOrder rfl ⟨115, hR.at (by decide), 3864, rfl, vp_in_nI (n := 0) (by omega) (by omega), ?_⟩
  rw [e0]
  refine ⟨nI_ne0 (by omega) (by omega), fun v hv => ?_⟩
  rw [nI_1, pk_rem (by omega) (by omega) (by omega)] at hv
  subst hv
  refine ⟨127, hR.at (by decide), 7, rfl, vg, vh, vg, vh, ?_⟩
  rw [nI_clamp (by omega), nI_clamp (by omega)]
  refine k _ (((FrI.refl HO S).uI _ (show HO 127 _ from rfl)).uI _ (show HO 127 _ from rfl)) (fun p hp => ?_)
  rw [uI_at, if_pos rfl, uI_at, if_pos rfl, sw_at hl hg]
  by_cases e1 : p = (g + 1) % n
  · rw [if_pos e1, if_pos e1]; exact hc g h1
  · rw [if_neg e1, if_neg e1]
    by_cases e2 : p = g
    · rw [if_pos e2, if_pos e2]; exact hc _ h2
    · rw [if_neg e2, if_neg e2]; exact hc p hp
theorem sp_orderNumber {P : Int32 → aw_S → Prop} (hn : n ≤ 7) (hR : RefsOk S.2.2) (h0 : S.1 115 0 = nI n) (hx : isO n x) (hc : ∀ p, p < n → S.1 127 p = nI (atL x p)) (h : P (nI (nuL x 0)) S) : Sp l m_Md_orderNumber (d + 1) 0 0 [.ref 114] sh0 S (gI sh0 P) := by
  have inn : ∀ k p o c v, o + k = n → p < n → AW l m_Md_orderNumber (d + 1) 0 0 (gI sh0 P) 0 0 11 [.ref 114, .int (nI n), .int (nI (c * (n - p) + (v + ltS x (atL x p) k o))), .int (nI (p + 1)), .null, .null] [] sh0 S → AW l m_Md_orderNumber (d + 1) 0 0 (gI sh0 P) 0 0 24 [.ref 114, .int (nI n), .int (nI c), .int (nI p), .int (nI v), .int (nI o)] [] sh0 S := by
    intro k
    induction k with
    | zero =>
      intro p o c v ho hp W
      have ho : o = n := ho
      subst ho
      refine s_Md_orderNumber_24 rfl ⟨fun _ => ?_, fun z => absurd (Int32.le_refl _) z⟩
      rw [pk_sub (by omega), pk_mul, nI_add, nI_1]
      exact W
    | succ k ih =>
      intro p o c v ho hp W
      have ea : ltS x (atL x p) (k + 1) o = (if atL x o < atL x p then 1 else 0) + ltS x (atL x p) k (o + 1) := rfl
      rw [ea] at W
      have l1 := hx.lt hp
      have l2 := hx.lt (p := o) (by omega)
      refine s_Md_orderNumber_24 rfl ⟨fun z => absurd ((nI_leI (by omega) (by omega)).mp z) (by omega), fun _ => ⟨127, hR.at (by decide), 7, rfl, vp_in_nI (by omega) (by omega), vp_in_nI (by omega) (by omega), ?_⟩⟩
      rw [nI_clamp (by omega), nI_clamp (by omega), hc p hp, hc o (by omega), nI_1 v, nI_1 o, nA0]
      refine ⟨fun z => ?_, fun z => ?_⟩
      · have z := (nI_leI (by omega) (by omega)).mp z
        rw [if_neg (by omega), Nat.zero_add] at W
        exact ih p (o + 1) c v (by omega) hp W
      · have z : ¬ atL x p ≤ atL x o := fun y => z (nI_le y (by omega))
        rw [if_pos (by omega), ← Nat.add_assoc v 1] at W
        exact ih p (o + 1) c (v + 1) (by omega) hp W
  have out : ∀ k p c, p + k = n → P (nI (nuS x k p c)) S → AW l m_Md_orderNumber (d + 1) 0 0 (gI sh0 P) 0 0 11 [.ref 114, .int (nI n), .int (nI c), .int (nI p), .null, .null] [] sh0 S := by
    intro k
    induction k with
    | zero =>
      intro p c hp h
      have hp : p = n := hp
      subst hp
      exact s_Md_orderNumber_11 rfl ⟨fun _ => h, fun z => absurd (Int32.le_refl _) z⟩
    | succ k ih =>
      intro p c hp h
      refine s_Md_orderNumber_11 rfl ⟨fun z => absurd ((nI_leI (by omega) (by omega)).mp z) (by omega), fun _ => ?_⟩
      rw [nI_1]
      refine inn k p (p + 1) c 0 (by omega) (by omega) ?_
      rw [Nat.zero_add, show n - p = k + 1 by omega]
      exact ih (p + 1) _ (by omega) h
  have e0 : S.1 115 (0 : Int32).toNatClampNeg = nI n := h0
  refine e_Md_orderNumber rfl ⟨115, hR.at (by decide), 3864, rfl, vp_in_nI (n := 0) (by omega) (by omega), ?_⟩
  rw [e0]
  rw [nu_all, hx.ln] at h
  exact out n 0 0 (by omega) h
theorem sp_orderNow {P : Int32 → aw_S → Prop} {g : GM} (hR : RefsOk S.2.2) (hb : bdG g) (H : MdG S.1 0 g) (k : ∀ S', FrI HO S S' → (∀ p, p < g.n → S'.1 127 p = nI (atL (lsN g.std g.n 0) p)) → P (nI (nuL (lsN g.std g.n 0) 0)) S') : Sp l m_Md_orderNow (d + 2) 0 0 [.ref 114] sh0 S (gI sh0 P) := by
  have hn : g.n ≤ 7 := hb.1
  have key : ∀ m p W, p + m = g.n → FrI HO S W → (∀ q, q < p → W.1 127 q = nI (atL (lsN g.std g.n 0) q)) → AW l m_Md_orderNow (d + 2) 0 0 (gI sh0 P) 0 0 2 [.ref 114, .int (nI p)] [] sh0 W := by
    intro m
    induction m with
    | zero =>
      intro p W hp F c
      have hp : p = g.n := hp
      have hRW : RefsOk W.2.2 := by rw [F.R]; exact hR
      have h0 : W.1 115 0 = nI g.n := by rw [F.1 115 0 (by unfold HO; omega)]; exact H.1
      have e0 : W.1 115 (0 : Int32).toNatClampNeg = nI g.n := h0
      refine s_Md_orderNow_2 rfl ⟨115, hRW.at (by decide), 3864, rfl, vp_in_nI (n := 0) (by omega) (by omega), ?_⟩
      rw [e0, hp]
      rw [hp] at c
      exact ⟨fun _ => sp_orderNumber (d := d) hn hRW h0 (isO.of hb) c (k W F c), fun z => absurd (Int32.le_refl _) z⟩
    | succ m ih =>
      intro p W hp F c
      have hRW : RefsOk W.2.2 := by rw [F.R]; exact hR
      have h0 : W.1 115 0 = nI g.n := by rw [F.1 115 0 (by unfold HO; omega)]; exact H.1
      have e0 : W.1 115 (0 : Int32).toNatClampNeg = nI g.n := h0
      have e17 : (17 : Int32) + nI p = nI (17 + p) := nI_add 17 p
      have es : W.1 115 (17 + p) = nI (atL (lsN g.std g.n 0) p) := by
        have := H.2.2.2.2.2.2 p (by omega)
        rw [show 0 + 17 + p = 17 + p by omega] at this
        rw [F.1 115 _ (by unfold HO; omega), lsN_at g.std g.n 0 p (by omega), Nat.zero_add]
        exact this
      refine s_Md_orderNow_2 rfl ⟨115, hRW.at (by decide), 3864, rfl, vp_in_nI (n := 0) (by omega) (by omega), ?_⟩
      rw [e0, e17, nI_clamp (by omega), nI_clamp (by omega), nI_1, es]
      refine ⟨fun z => absurd ((nI_leI (by omega) (by omega)).mp z) (by omega), fun _ => ⟨127, hRW.at (by decide), vp_in_nI (by omega) (by omega), 7, rfl, vp_in_nI (by omega) (by omega), ih (p + 1) _ (by omega) (F.uI _ (show HO 127 _ from rfl)) (fun q hq => ?_)⟩⟩
      rw [uI_at, if_pos rfl]
      by_cases e : q = p
      · rw [if_pos e, e]
      · rw [if_neg e]; exact c q (by omega)
  exact e_Md_orderNow rfl (key g.n 0 S (by omega) (FrI.refl _ S) (fun q hq => absurd hq (Nat.not_lt_zero q)))
end HRF
