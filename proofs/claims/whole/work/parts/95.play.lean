/-! what is only tried -/
theorem GrP.ext {I : Nat → Nat → Int32} {a n od lg m m' : Nat} {f f' col std std' : Nat → Nat} (h : GrP I a n od lg m f col std) (em : m = m') (ef : ∀ k, k < m' → f k = f' k) (es : ∀ p, p < n → std p = std' p) : GrP I a n od lg m' f' col std' := by
  subst em
  obtain ⟨h1, h2, h3, h4, h5, h6, h7, h8⟩ := h
  refine ⟨h1, h2, h3, h4, fun k hk => by rw [← ef k hk]; exact h5 k hk, h6, fun p hp => by rw [← es p hp]; exact h7 p hp, fun d hd => ?_⟩
  rw [← us_cong ef]
  exact h8 d hd
theorem sw_sw {n : Nat} {std : Nat → Nat} {gap p : Nat} (h2 : 2 ≤ n) (hg : gap < n) : swS n (swS n std gap) gap p = std p := by
  have hx := nx_ne h2 hg
  unfold swS
  by_cases e : p = gap
  · rw [if_pos e, if_neg hx, if_pos rfl, e]
  · rw [if_neg e]
    by_cases e2 : p = nx n gap
    · rw [if_pos e2, if_pos rfl, e2]
    · rw [if_neg e2, if_neg e, if_neg e2]
section TB
variable {l : Launch} {d : Nat} {sh : aw_SH} {S : aw_S} {a : Nat} {g : GM}
theorem sp_takeRm {P : aw_S → Prop} {v : Nat} (hS : GrS sh S.2.2 a) (hb : bdG g) (hv : okP g.n v) (hm : g.m < 40) (H : GrG S.1 a (inG g g.m v)) (h : ∀ S', FrI (GX a) S S' → GrG S'.1 a g → P S') : Sp l m_Gr_takeBack (d + 1 + 1 + 1 + 1) 0 0 [.ref a, .int 0] sh S (gV sh P) := by
  have g2 := gp_2 hv.2.1
  have g3 := gp_le g.n
  have e1 : S.1 (a + 6) 1 = nI (g.m + 1) := H.2.2.2.1
  refine e_Gr_takeBack hS.sa ⟨fun q => absurd rfl q, fun _ => ⟨a + 6, hS.r10, hS.s6, ?_⟩⟩
  rw [e1, ← nI_1, Int32.add_sub_cancel]
  refine sp_Gr_removePass hS (hb.ins hm hv (Nat.le_refl _)) H (Nat.lt_succ_self g.m) (fun S' F _ G => h S' F ?_)
  refine GrP.ext G rfl (fun k hk => ?_) (fun p hp => ?_)
  · show remF (insF g.f g.m v) g.m k = g.f k
    unfold remF insF
    rw [if_pos hk, if_pos hk]
  · show swS g.n (swS g.n g.std (v % 8)) (insF g.f g.m v g.m % 8) p = g.std p
    rw [insF_k]
    exact sw_sw g2 (by have := hv.2.1; omega)
theorem sp_takeIn {P : aw_S → Prop} {k : Nat} (hS : GrS sh S.2.2 a) (hb : bdG g) (hk : k < g.m) (H : GrG S.1 a (rmG g k)) (h : ∀ S', FrI (GX a) S S' → GrG S'.1 a g → P S') : Sp l m_Gr_takeBack (d + 1 + 1 + 1 + 1) 0 0 [.ref a, .int (nI (1 + (k * 1024 + g.f k)))] sh S (gV sh P) := by
  have hv : okP g.n (g.f k) := hb.2.2.2.2.2.1 k hk
  have hm : g.m ≤ 40 := hb.2.2.2.2.1
  have g2 := gp_2 hv.2.1
  have g3 := gp_le g.n
  have h1 := hv.1
  have e1 : nI (1 + (k * 1024 + g.f k)) - 1 = nI (k * 1024 + g.f k) := by
    rw [Nat.add_comm, ← nI_1, Int32.add_sub_cancel]
  refine e_Gr_takeBack hS.sa ⟨fun _ => ⟨fun q => absurd ((nI_leI (b := 0) (by omega) (by omega)).mp q) (by omega), fun _ => ?_⟩, fun q => absurd ((nI_inj (b := 0) (by omega) (by omega)).mp q) (by omega)⟩
  rw [e1, n_shr (by omega) _ 10 (by decide), show (1023 : Int32) = nI 1023 from rfl, show nI (k * 1024 + g.f k) &&& nI 1023 = nI ((k * 1024 + g.f k) % 1024) from pk_andN (by omega) 10 (by decide), show (k * 1024 + g.f k) / 2 ^ 10 = k by omega, show (k * 1024 + g.f k) % 1024 = g.f k by omega]
  refine sp_Gr_insertPass hS (hb.rem hk) H (by show k ≤ g.m - 1; omega) (by show g.m - 1 < 40; omega) hv (fun S' F _ G => h S' F ?_)
  refine GrP.ext G (by show g.m - 1 + 1 = g.m; omega) (fun i hi => ?_) (fun p hp => ?_)
  · show insF (remF g.f k) k (g.f k) i = g.f i
    unfold insF
    by_cases e : i < k
    · rw [if_pos e]
      unfold remF
      rw [if_pos e]
    · rw [if_neg e]
      by_cases e2 : i = k
      · rw [if_pos e2, e2]
      · rw [if_neg e2]
        unfold remF
        rw [if_neg (by omega), show i - 1 + 1 = i by omega]
  · show swS g.n (swS g.n g.std (g.f k % 8)) (g.f k % 8) p = g.std p
    exact sw_sw g2 (by have := hv.2.1; omega)
/-- a pass that is tried, and how it is taken back -/
theorem sp_try {P : Int32 → aw_S → Prop} {gap over : Nat} (hS : GrS sh S.2.2 a) (hb : bdG g) (H : GrG S.1 a g) (hg : gap < gpN g.n) (ho : over < 2)
    (h0 : (psG g gap over).1 = 0 → P (-1) S)
    (h1 : ∀ r S', (psG g gap over).1 ≠ 0 → r ≠ -1 → FrI (GX a) S S' → GrG S'.1 a (psG g gap over).2 → (∀ {l : Launch} {d : Nat} {T : aw_S} {Q : aw_S → Prop}, GrS sh T.2.2 a → GrG T.1 a (psG g gap over).2 → (∀ T', FrI (GX a) T T' → GrG T'.1 a g → Q T') → Sp l m_Gr_takeBack (d + 1 + 1 + 1 + 1) 0 0 [.ref a, .int r] sh T (gV sh Q)) → P r S') : Sp l m_Gr_makePass (d + 1 + 1 + 1 + 1) 0 0 [.ref a, .int (nI (2 * gap + over))] sh S (gI sh P) := by
  have hm : g.m ≤ 40 := hb.2.2.2.2.1
  refine sp_Gr_makePass hS hb H hg ho (fun k S' hu hk F G e3 e4 => ?_) (fun S' hu c F G e3 e4 => ?_) (fun hu c => ?_)
  · rw [ps_2 hu] at h1
    have := (hb.2.2.2.2.2.1 k hk).1
    exact h1 _ S' (by decide : (2 : Nat) ≠ 0) (nI_ne_m1 (by omega)) F G (fun hT GT hQ => sp_takeIn hT hb hk GT hQ)
  · rw [ps_1 hu c] at h1
    exact h1 0 S' (by decide : (1 : Nat) ≠ 0) (by decide) F G (fun hT GT hQ => sp_takeRm hT hb (np_ok hb hg ho).1 c.1 GT hQ)
  · exact h0 (by rw [ps_0 hu c])
end TB
