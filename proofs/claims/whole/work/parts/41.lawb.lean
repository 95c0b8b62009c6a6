set_option maxRecDepth 4000 in
theorem s_law_18 {l : Launch} {b0 L : Nat} {xs : Nat → Int32} {ce sl : Nat} {sh : aw_SH} {S : aw_S} {a m : Nat} {i3 : Int32} (hce : ce ≤ 600000) (hsl : sl ≤ 7302250) (sa : sh[a]? = some (0, 0)) (sm : sh[m]? = some (0, 11)) (h : ((((nI L) - (6 : Int32)) < i3 → True) ∧ (¬ ((nI L) - (6 : Int32)) < i3 → vp_in i3 L ∧ (((((xs (i3 : Int32).toNatClampNeg) &&& (63 : Int32) : Int32).toInt < 0 ∨ 45 < ((xs (i3 : Int32).toNatClampNeg) &&& (63 : Int32) : Int32).toInt) → AL l b0 L xs ce sl 1619 [.float 0, .ref a, .ref m, .int i3] [] sh S) ∧ (((xs (i3 : Int32).toNatClampNeg) &&& (63 : Int32)) = 0 → AL l b0 L xs ce sl 232 [.float 0, .ref a, .ref m, .int i3] [] sh S) ∧ (((xs (i3 : Int32).toNatClampNeg) &&& (63 : Int32)) = 1 → AL l b0 L xs ce sl 245 [.float 0, .ref a, .ref m, .int i3] [] sh S) ∧ (((xs (i3 : Int32).toNatClampNeg) &&& (63 : Int32)) = 2 → AL l b0 L xs ce sl 259 [.float 0, .ref a, .ref m, .int i3] [] sh S) ∧ (((xs (i3 : Int32).toNatClampNeg) &&& (63 : Int32)) = 3 → AL l b0 L xs ce sl 273 [.float 0, .ref a, .ref m, .int i3] [] sh S) ∧ (((xs (i3 : Int32).toNatClampNeg) &&& (63 : Int32)) = 4 → AL l b0 L xs ce sl 316 [.float 0, .ref a, .ref m, .int i3] [] sh S) ∧ (((xs (i3 : Int32).toNatClampNeg) &&& (63 : Int32)) = 5 → AL l b0 L xs ce sl 389 [.float 0, .ref a, .ref m, .int i3] [] sh S) ∧ (((xs (i3 : Int32).toNatClampNeg) &&& (63 : Int32)) = 6 → AL l b0 L xs ce sl 423 [.float 0, .ref a, .ref m, .int i3] [] sh S) ∧ (((xs (i3 : Int32).toNatClampNeg) &&& (63 : Int32)) = 7 → AL l b0 L xs ce sl 486 [.float 0, .ref a, .ref m, .int i3] [] sh S) ∧ (((xs (i3 : Int32).toNatClampNeg) &&& (63 : Int32)) = 8 → AL l b0 L xs ce sl 549 [.float 0, .ref a, .ref m, .int i3] [] sh S) ∧ (((xs (i3 : Int32).toNatClampNeg) &&& (63 : Int32)) = 9 → AL l b0 L xs ce sl 572 [.float 0, .ref a, .ref m, .int i3] [] sh S) ∧ (((xs (i3 : Int32).toNatClampNeg) &&& (63 : Int32)) = 10 → AL l b0 L xs ce sl 595 [.float 0, .ref a, .ref m, .int i3] [] sh S) ∧ (((xs (i3 : Int32).toNatClampNeg) &&& (63 : Int32)) = 11 → AL l b0 L xs ce sl 618 [.float 0, .ref a, .ref m, .int i3] [] sh S) ∧ (((xs (i3 : Int32).toNatClampNeg) &&& (63 : Int32)) = 12 → AL l b0 L xs ce sl 641 [.float 0, .ref a, .ref m, .int i3] [] sh S) ∧ (((xs (i3 : Int32).toNatClampNeg) &&& (63 : Int32)) = 13 → AL l b0 L xs ce sl 674 [.float 0, .ref a, .ref m, .int i3] [] sh S) ∧ (((xs (i3 : Int32).toNatClampNeg) &&& (63 : Int32)) = 14 → AL l b0 L xs ce sl 697 [.float 0, .ref a, .ref m, .int i3] [] sh S) ∧ (((xs (i3 : Int32).toNatClampNeg) &&& (63 : Int32)) = 15 → AL l b0 L xs ce sl 730 [.float 0, .ref a, .ref m, .int i3] [] sh S) ∧ (((xs (i3 : Int32).toNatClampNeg) &&& (63 : Int32)) = 16 → AL l b0 L xs ce sl 753 [.float 0, .ref a, .ref m, .int i3] [] sh S) ∧ (((xs (i3 : Int32).toNatClampNeg) &&& (63 : Int32)) = 17 → AL l b0 L xs ce sl 776 [.float 0, .ref a, .ref m, .int i3] [] sh S) ∧ (((xs (i3 : Int32).toNatClampNeg) &&& (63 : Int32)) = 18 → AL l b0 L xs ce sl 825 [.float 0, .ref a, .ref m, .int i3] [] sh S) ∧ (((xs (i3 : Int32).toNatClampNeg) &&& (63 : Int32)) = 19 → AL l b0 L xs ce sl 838 [.float 0, .ref a, .ref m, .int i3] [] sh S) ∧ (((xs (i3 : Int32).toNatClampNeg) &&& (63 : Int32)) = 20 → AL l b0 L xs ce sl 851 [.float 0, .ref a, .ref m, .int i3] [] sh S) ∧ (((xs (i3 : Int32).toNatClampNeg) &&& (63 : Int32)) = 21 → AL l b0 L xs ce sl 884 [.float 0, .ref a, .ref m, .int i3] [] sh S) ∧ (((xs (i3 : Int32).toNatClampNeg) &&& (63 : Int32)) = 22 → AL l b0 L xs ce sl 917 [.float 0, .ref a, .ref m, .int i3] [] sh S) ∧ (((xs (i3 : Int32).toNatClampNeg) &&& (63 : Int32)) = 23 → AL l b0 L xs ce sl 940 [.float 0, .ref a, .ref m, .int i3] [] sh S) ∧ (((xs (i3 : Int32).toNatClampNeg) &&& (63 : Int32)) = 24 → AL l b0 L xs ce sl 973 [.float 0, .ref a, .ref m, .int i3] [] sh S) ∧ (((xs (i3 : Int32).toNatClampNeg) &&& (63 : Int32)) = 25 → AL l b0 L xs ce sl 996 [.float 0, .ref a, .ref m, .int i3] [] sh S) ∧ (((xs (i3 : Int32).toNatClampNeg) &&& (63 : Int32)) = 26 → AL l b0 L xs ce sl 1009 [.float 0, .ref a, .ref m, .int i3] [] sh S) ∧ (((xs (i3 : Int32).toNatClampNeg) &&& (63 : Int32)) = 27 → AL l b0 L xs ce sl 1032 [.float 0, .ref a, .ref m, .int i3] [] sh S) ∧ (((xs (i3 : Int32).toNatClampNeg) &&& (63 : Int32)) = 28 → AL l b0 L xs ce sl 1065 [.float 0, .ref a, .ref m, .int i3] [] sh S) ∧ (((xs (i3 : Int32).toNatClampNeg) &&& (63 : Int32)) = 29 → AL l b0 L xs ce sl 1098 [.float 0, .ref a, .ref m, .int i3] [] sh S) ∧ (((xs (i3 : Int32).toNatClampNeg) &&& (63 : Int32)) = 30 → AL l b0 L xs ce sl 1131 [.float 0, .ref a, .ref m, .int i3] [] sh S) ∧ (((xs (i3 : Int32).toNatClampNeg) &&& (63 : Int32)) = 31 → AL l b0 L xs ce sl 1164 [.float 0, .ref a, .ref m, .int i3] [] sh S) ∧ (((xs (i3 : Int32).toNatClampNeg) &&& (63 : Int32)) = 32 → AL l b0 L xs ce sl 1207 [.float 0, .ref a, .ref m, .int i3] [] sh S) ∧ (((xs (i3 : Int32).toNatClampNeg) &&& (63 : Int32)) = 33 → AL l b0 L xs ce sl 1250 [.float 0, .ref a, .ref m, .int i3] [] sh S) ∧ (((xs (i3 : Int32).toNatClampNeg) &&& (63 : Int32)) = 34 → AL l b0 L xs ce sl 1303 [.float 0, .ref a, .ref m, .int i3] [] sh S) ∧ (((xs (i3 : Int32).toNatClampNeg) &&& (63 : Int32)) = 35 → AL l b0 L xs ce sl 1346 [.float 0, .ref a, .ref m, .int i3] [] sh S) ∧ (((xs (i3 : Int32).toNatClampNeg) &&& (63 : Int32)) = 36 → AL l b0 L xs ce sl 1369 [.float 0, .ref a, .ref m, .int i3] [] sh S) ∧ (((xs (i3 : Int32).toNatClampNeg) &&& (63 : Int32)) = 37 → AL l b0 L xs ce sl 1392 [.float 0, .ref a, .ref m, .int i3] [] sh S) ∧ (((xs (i3 : Int32).toNatClampNeg) &&& (63 : Int32)) = 38 → AL l b0 L xs ce sl 1425 [.float 0, .ref a, .ref m, .int i3] [] sh S) ∧ (((xs (i3 : Int32).toNatClampNeg) &&& (63 : Int32)) = 39 → AL l b0 L xs ce sl 1468 [.float 0, .ref a, .ref m, .int i3] [] sh S) ∧ (((xs (i3 : Int32).toNatClampNeg) &&& (63 : Int32)) = 40 → AL l b0 L xs ce sl 1491 [.float 0, .ref a, .ref m, .int i3] [] sh S) ∧ (((xs (i3 : Int32).toNatClampNeg) &&& (63 : Int32)) = 41 → AL l b0 L xs ce sl 1514 [.float 0, .ref a, .ref m, .int i3] [] sh S) ∧ (((xs (i3 : Int32).toNatClampNeg) &&& (63 : Int32)) = 42 → AL l b0 L xs ce sl 1537 [.float 0, .ref a, .ref m, .int i3] [] sh S) ∧ (((xs (i3 : Int32).toNatClampNeg) &&& (63 : Int32)) = 43 → AL l b0 L xs ce sl 1560 [.float 0, .ref a, .ref m, .int i3] [] sh S) ∧ (((xs (i3 : Int32).toNatClampNeg) &&& (63 : Int32)) = 44 → AL l b0 L xs ce sl 1593 [.float 0, .ref a, .ref m, .int i3] [] sh S) ∧ (((xs (i3 : Int32).toNatClampNeg) &&& (63 : Int32)) = 45 → AL l b0 L xs ce sl 1606 [.float 0, .ref a, .ref m, .int i3] [] sh S))))) : AL l b0 L xs ce sl 18 [.float 0, .ref a, .ref m, .int i3] [] sh S := by
  refine q_iload_n (pc := 18) d_law_18 (x := i3) rfl ?_
  refine q_aload_nX (pc := 19) d_law_19 (x := 0) rfl ?_
  refine q_slen (pc := 20) d_law_20 ?_
  refine q_bipush (pc := 21) d_law_21 (v := 6) (by decide) ?_
  refine q_isub (pc := 23) d_law_23 ?_
  refine q_icmp_gt (pc := 24) d_law_24 (tgt := 1625) (by decide) (fun c1 => ?_) (fun c1 => ?_)
  · replace h := h.1 c1
    refine q_iconst (pc := 1625) d_law_1625 (v := 1) (by decide) ?_
    exact q_ret (pc := 1626) d_law_1626 hce hsl
  · replace h := h.2 c1
    refine q_aload_nX (pc := 27) d_law_27 (x := 0) rfl ?_
    refine q_iload_n (pc := 28) d_law_28 (x := i3) rfl ?_
    obtain ⟨g2, h⟩ := h
    refine q_sld (pc := 29) d_law_29 g2 ?_
    refine q_bipush (pc := 30) d_law_30 (v := 63) (by decide) ?_
    refine q_iand (pc := 32) d_law_32 ?_
    rcases aw_sw ((xs (i3 : Int32).toNatClampNeg) &&& (63 : Int32)) 0 45 with q4 | ⟨kq4, q4, wq4⟩
    · refine q_tabOut (pc := 33) d_law_33 q4 (tgt := 1619) (by decide) ?_
      replace h := h.1 q4
      exact h
    · rcases (show kq4 = 0 ∨ kq4 = 1 ∨ kq4 = 2 ∨ kq4 = 3 ∨ kq4 = 4 ∨ kq4 = 5 ∨ kq4 = 6 ∨ kq4 = 7 ∨ kq4 = 8 ∨ kq4 = 9 ∨ kq4 = 10 ∨ kq4 = 11 ∨ kq4 = 12 ∨ kq4 = 13 ∨ kq4 = 14 ∨ kq4 = 15 ∨ kq4 = 16 ∨ kq4 = 17 ∨ kq4 = 18 ∨ kq4 = 19 ∨ kq4 = 20 ∨ kq4 = 21 ∨ kq4 = 22 ∨ kq4 = 23 ∨ kq4 = 24 ∨ kq4 = 25 ∨ kq4 = 26 ∨ kq4 = 27 ∨ kq4 = 28 ∨ kq4 = 29 ∨ kq4 = 30 ∨ kq4 = 31 ∨ kq4 = 32 ∨ kq4 = 33 ∨ kq4 = 34 ∨ kq4 = 35 ∨ kq4 = 36 ∨ kq4 = 37 ∨ kq4 = 38 ∨ kq4 = 39 ∨ kq4 = 40 ∨ kq4 = 41 ∨ kq4 = 42 ∨ kq4 = 43 ∨ kq4 = 44 ∨ kq4 = 45 by omega) with rfl | rfl | rfl | rfl | rfl | rfl | rfl | rfl | rfl | rfl | rfl | rfl | rfl | rfl | rfl | rfl | rfl | rfl | rfl | rfl | rfl | rfl | rfl | rfl | rfl | rfl | rfl | rfl | rfl | rfl | rfl | rfl | rfl | rfl | rfl | rfl | rfl | rfl | rfl | rfl | rfl | rfl | rfl | rfl | rfl | rfl
      · refine q_tabIn (pc := 33) d_law_33 (off := 199) (by omega) (by omega) (by rw [q4]; rfl) (tgt := 232) (by decide) ?_
        replace h := h.2.1 (aw_ix (y := 0) q4 (by decide))
        exact h
      · refine q_tabIn (pc := 33) d_law_33 (off := 212) (by omega) (by omega) (by rw [q4]; rfl) (tgt := 245) (by decide) ?_
        replace h := h.2.2.1 (aw_ix (y := 1) q4 (by decide))
        exact h
      · refine q_tabIn (pc := 33) d_law_33 (off := 226) (by omega) (by omega) (by rw [q4]; rfl) (tgt := 259) (by decide) ?_
        replace h := h.2.2.2.1 (aw_ix (y := 2) q4 (by decide))
        exact h
      · refine q_tabIn (pc := 33) d_law_33 (off := 240) (by omega) (by omega) (by rw [q4]; rfl) (tgt := 273) (by decide) ?_
        replace h := h.2.2.2.2.1 (aw_ix (y := 3) q4 (by decide))
        exact h
      · refine q_tabIn (pc := 33) d_law_33 (off := 283) (by omega) (by omega) (by rw [q4]; rfl) (tgt := 316) (by decide) ?_
        replace h := h.2.2.2.2.2.1 (aw_ix (y := 4) q4 (by decide))
        exact h
      · refine q_tabIn (pc := 33) d_law_33 (off := 356) (by omega) (by omega) (by rw [q4]; rfl) (tgt := 389) (by decide) ?_
        replace h := h.2.2.2.2.2.2.1 (aw_ix (y := 5) q4 (by decide))
        exact h
      · refine q_tabIn (pc := 33) d_law_33 (off := 390) (by omega) (by omega) (by rw [q4]; rfl) (tgt := 423) (by decide) ?_
        replace h := h.2.2.2.2.2.2.2.1 (aw_ix (y := 6) q4 (by decide))
        exact h
      · refine q_tabIn (pc := 33) d_law_33 (off := 453) (by omega) (by omega) (by rw [q4]; rfl) (tgt := 486) (by decide) ?_
        replace h := h.2.2.2.2.2.2.2.2.1 (aw_ix (y := 7) q4 (by decide))
        exact h
      · refine q_tabIn (pc := 33) d_law_33 (off := 516) (by omega) (by omega) (by rw [q4]; rfl) (tgt := 549) (by decide) ?_
        replace h := h.2.2.2.2.2.2.2.2.2.1 (aw_ix (y := 8) q4 (by decide))
        exact h
      · refine q_tabIn (pc := 33) d_law_33 (off := 539) (by omega) (by omega) (by rw [q4]; rfl) (tgt := 572) (by decide) ?_
        replace h := h.2.2.2.2.2.2.2.2.2.2.1 (aw_ix (y := 9) q4 (by decide))
        exact h
      · refine q_tabIn (pc := 33) d_law_33 (off := 562) (by omega) (by omega) (by rw [q4]; rfl) (tgt := 595) (by decide) ?_
        replace h := h.2.2.2.2.2.2.2.2.2.2.2.1 (aw_ix (y := 10) q4 (by decide))
        exact h
      · refine q_tabIn (pc := 33) d_law_33 (off := 585) (by omega) (by omega) (by rw [q4]; rfl) (tgt := 618) (by decide) ?_
        replace h := h.2.2.2.2.2.2.2.2.2.2.2.2.1 (aw_ix (y := 11) q4 (by decide))
        exact h
      · refine q_tabIn (pc := 33) d_law_33 (off := 608) (by omega) (by omega) (by rw [q4]; rfl) (tgt := 641) (by decide) ?_
        replace h := h.2.2.2.2.2.2.2.2.2.2.2.2.2.1 (aw_ix (y := 12) q4 (by decide))
        exact h
      · refine q_tabIn (pc := 33) d_law_33 (off := 641) (by omega) (by omega) (by rw [q4]; rfl) (tgt := 674) (by decide) ?_
        replace h := h.2.2.2.2.2.2.2.2.2.2.2.2.2.2.1 (aw_ix (y := 13) q4 (by decide))
        exact h
      · refine q_tabIn (pc := 33) d_law_33 (off := 664) (by omega) (by omega) (by rw [q4]; rfl) (tgt := 697) (by decide) ?_
        replace h := h.2.2.2.2.2.2.2.2.2.2.2.2.2.2.2.1 (aw_ix (y := 14) q4 (by decide))
        exact h
      · refine q_tabIn (pc := 33) d_law_33 (off := 697) (by omega) (by omega) (by rw [q4]; rfl) (tgt := 730) (by decide) ?_
        replace h := h.2.2.2.2.2.2.2.2.2.2.2.2.2.2.2.2.1 (aw_ix (y := 15) q4 (by decide))
        exact h
      · refine q_tabIn (pc := 33) d_law_33 (off := 720) (by omega) (by omega) (by rw [q4]; rfl) (tgt := 753) (by decide) ?_
        replace h := h.2.2.2.2.2.2.2.2.2.2.2.2.2.2.2.2.2.1 (aw_ix (y := 16) q4 (by decide))
        exact h
      · refine q_tabIn (pc := 33) d_law_33 (off := 743) (by omega) (by omega) (by rw [q4]; rfl) (tgt := 776) (by decide) ?_
        replace h := h.2.2.2.2.2.2.2.2.2.2.2.2.2.2.2.2.2.2.1 (aw_ix (y := 17) q4 (by decide))
        exact h
      · refine q_tabIn (pc := 33) d_law_33 (off := 792) (by omega) (by omega) (by rw [q4]; rfl) (tgt := 825) (by decide) ?_
        replace h := h.2.2.2.2.2.2.2.2.2.2.2.2.2.2.2.2.2.2.2.1 (aw_ix (y := 18) q4 (by decide))
        exact h
      · refine q_tabIn (pc := 33) d_law_33 (off := 805) (by omega) (by omega) (by rw [q4]; rfl) (tgt := 838) (by decide) ?_
        replace h := h.2.2.2.2.2.2.2.2.2.2.2.2.2.2.2.2.2.2.2.2.1 (aw_ix (y := 19) q4 (by decide))
        exact h
      · refine q_tabIn (pc := 33) d_law_33 (off := 818) (by omega) (by omega) (by rw [q4]; rfl) (tgt := 851) (by decide) ?_
        replace h := h.2.2.2.2.2.2.2.2.2.2.2.2.2.2.2.2.2.2.2.2.2.1 (aw_ix (y := 20) q4 (by decide))
        exact h
      · refine q_tabIn (pc := 33) d_law_33 (off := 851) (by omega) (by omega) (by rw [q4]; rfl) (tgt := 884) (by decide) ?_
        replace h := h.2.2.2.2.2.2.2.2.2.2.2.2.2.2.2.2.2.2.2.2.2.2.1 (aw_ix (y := 21) q4 (by decide))
        exact h
      · refine q_tabIn (pc := 33) d_law_33 (off := 884) (by omega) (by omega) (by rw [q4]; rfl) (tgt := 917) (by decide) ?_
        replace h := h.2.2.2.2.2.2.2.2.2.2.2.2.2.2.2.2.2.2.2.2.2.2.2.1 (aw_ix (y := 22) q4 (by decide))
        exact h
      · refine q_tabIn (pc := 33) d_law_33 (off := 907) (by omega) (by omega) (by rw [q4]; rfl) (tgt := 940) (by decide) ?_
        replace h := h.2.2.2.2.2.2.2.2.2.2.2.2.2.2.2.2.2.2.2.2.2.2.2.2.1 (aw_ix (y := 23) q4 (by decide))
        exact h
      · refine q_tabIn (pc := 33) d_law_33 (off := 940) (by omega) (by omega) (by rw [q4]; rfl) (tgt := 973) (by decide) ?_
        replace h := h.2.2.2.2.2.2.2.2.2.2.2.2.2.2.2.2.2.2.2.2.2.2.2.2.2.1 (aw_ix (y := 24) q4 (by decide))
        exact h
      · refine q_tabIn (pc := 33) d_law_33 (off := 963) (by omega) (by omega) (by rw [q4]; rfl) (tgt := 996) (by decide) ?_
        replace h := h.2.2.2.2.2.2.2.2.2.2.2.2.2.2.2.2.2.2.2.2.2.2.2.2.2.2.1 (aw_ix (y := 25) q4 (by decide))
        exact h
      · refine q_tabIn (pc := 33) d_law_33 (off := 976) (by omega) (by omega) (by rw [q4]; rfl) (tgt := 1009) (by decide) ?_
        replace h := h.2.2.2.2.2.2.2.2.2.2.2.2.2.2.2.2.2.2.2.2.2.2.2.2.2.2.2.1 (aw_ix (y := 26) q4 (by decide))
        exact h
      · refine q_tabIn (pc := 33) d_law_33 (off := 999) (by omega) (by omega) (by rw [q4]; rfl) (tgt := 1032) (by decide) ?_
        replace h := h.2.2.2.2.2.2.2.2.2.2.2.2.2.2.2.2.2.2.2.2.2.2.2.2.2.2.2.2.1 (aw_ix (y := 27) q4 (by decide))
        exact h
      · refine q_tabIn (pc := 33) d_law_33 (off := 1032) (by omega) (by omega) (by rw [q4]; rfl) (tgt := 1065) (by decide) ?_
        replace h := h.2.2.2.2.2.2.2.2.2.2.2.2.2.2.2.2.2.2.2.2.2.2.2.2.2.2.2.2.2.1 (aw_ix (y := 28) q4 (by decide))
        exact h
      · refine q_tabIn (pc := 33) d_law_33 (off := 1065) (by omega) (by omega) (by rw [q4]; rfl) (tgt := 1098) (by decide) ?_
        replace h := h.2.2.2.2.2.2.2.2.2.2.2.2.2.2.2.2.2.2.2.2.2.2.2.2.2.2.2.2.2.2.1 (aw_ix (y := 29) q4 (by decide))
        exact h
      · refine q_tabIn (pc := 33) d_law_33 (off := 1098) (by omega) (by omega) (by rw [q4]; rfl) (tgt := 1131) (by decide) ?_
        replace h := h.2.2.2.2.2.2.2.2.2.2.2.2.2.2.2.2.2.2.2.2.2.2.2.2.2.2.2.2.2.2.2.1 (aw_ix (y := 30) q4 (by decide))
        exact h
      · refine q_tabIn (pc := 33) d_law_33 (off := 1131) (by omega) (by omega) (by rw [q4]; rfl) (tgt := 1164) (by decide) ?_
        replace h := h.2.2.2.2.2.2.2.2.2.2.2.2.2.2.2.2.2.2.2.2.2.2.2.2.2.2.2.2.2.2.2.2.1 (aw_ix (y := 31) q4 (by decide))
        exact h
      · refine q_tabIn (pc := 33) d_law_33 (off := 1174) (by omega) (by omega) (by rw [q4]; rfl) (tgt := 1207) (by decide) ?_
        replace h := h.2.2.2.2.2.2.2.2.2.2.2.2.2.2.2.2.2.2.2.2.2.2.2.2.2.2.2.2.2.2.2.2.2.1 (aw_ix (y := 32) q4 (by decide))
        exact h
      · refine q_tabIn (pc := 33) d_law_33 (off := 1217) (by omega) (by omega) (by rw [q4]; rfl) (tgt := 1250) (by decide) ?_
        replace h := h.2.2.2.2.2.2.2.2.2.2.2.2.2.2.2.2.2.2.2.2.2.2.2.2.2.2.2.2.2.2.2.2.2.2.1 (aw_ix (y := 33) q4 (by decide))
        exact h
      · refine q_tabIn (pc := 33) d_law_33 (off := 1270) (by omega) (by omega) (by rw [q4]; rfl) (tgt := 1303) (by decide) ?_
        replace h := h.2.2.2.2.2.2.2.2.2.2.2.2.2.2.2.2.2.2.2.2.2.2.2.2.2.2.2.2.2.2.2.2.2.2.2.1 (aw_ix (y := 34) q4 (by decide))
        exact h
      · refine q_tabIn (pc := 33) d_law_33 (off := 1313) (by omega) (by omega) (by rw [q4]; rfl) (tgt := 1346) (by decide) ?_
        replace h := h.2.2.2.2.2.2.2.2.2.2.2.2.2.2.2.2.2.2.2.2.2.2.2.2.2.2.2.2.2.2.2.2.2.2.2.2.1 (aw_ix (y := 35) q4 (by decide))
        exact h
      · refine q_tabIn (pc := 33) d_law_33 (off := 1336) (by omega) (by omega) (by rw [q4]; rfl) (tgt := 1369) (by decide) ?_
        replace h := h.2.2.2.2.2.2.2.2.2.2.2.2.2.2.2.2.2.2.2.2.2.2.2.2.2.2.2.2.2.2.2.2.2.2.2.2.2.1 (aw_ix (y := 36) q4 (by decide))
        exact h
      · refine q_tabIn (pc := 33) d_law_33 (off := 1359) (by omega) (by omega) (by rw [q4]; rfl) (tgt := 1392) (by decide) ?_
        replace h := h.2.2.2.2.2.2.2.2.2.2.2.2.2.2.2.2.2.2.2.2.2.2.2.2.2.2.2.2.2.2.2.2.2.2.2.2.2.2.1 (aw_ix (y := 37) q4 (by decide))
        exact h
      · refine q_tabIn (pc := 33) d_law_33 (off := 1392) (by omega) (by omega) (by rw [q4]; rfl) (tgt := 1425) (by decide) ?_
        replace h := h.2.2.2.2.2.2.2.2.2.2.2.2.2.2.2.2.2.2.2.2.2.2.2.2.2.2.2.2.2.2.2.2.2.2.2.2.2.2.2.1 (aw_ix (y := 38) q4 (by decide))
        exact h
      · refine q_tabIn (pc := 33) d_law_33 (off := 1435) (by omega) (by omega) (by rw [q4]; rfl) (tgt := 1468) (by decide) ?_
        replace h := h.2.2.2.2.2.2.2.2.2.2.2.2.2.2.2.2.2.2.2.2.2.2.2.2.2.2.2.2.2.2.2.2.2.2.2.2.2.2.2.2.1 (aw_ix (y := 39) q4 (by decide))
        exact h
      · refine q_tabIn (pc := 33) d_law_33 (off := 1458) (by omega) (by omega) (by rw [q4]; rfl) (tgt := 1491) (by decide) ?_
        replace h := h.2.2.2.2.2.2.2.2.2.2.2.2.2.2.2.2.2.2.2.2.2.2.2.2.2.2.2.2.2.2.2.2.2.2.2.2.2.2.2.2.2.1 (aw_ix (y := 40) q4 (by decide))
        exact h
      · refine q_tabIn (pc := 33) d_law_33 (off := 1481) (by omega) (by omega) (by rw [q4]; rfl) (tgt := 1514) (by decide) ?_
        replace h := h.2.2.2.2.2.2.2.2.2.2.2.2.2.2.2.2.2.2.2.2.2.2.2.2.2.2.2.2.2.2.2.2.2.2.2.2.2.2.2.2.2.2.1 (aw_ix (y := 41) q4 (by decide))
        exact h
      · refine q_tabIn (pc := 33) d_law_33 (off := 1504) (by omega) (by omega) (by rw [q4]; rfl) (tgt := 1537) (by decide) ?_
        replace h := h.2.2.2.2.2.2.2.2.2.2.2.2.2.2.2.2.2.2.2.2.2.2.2.2.2.2.2.2.2.2.2.2.2.2.2.2.2.2.2.2.2.2.2.1 (aw_ix (y := 42) q4 (by decide))
        exact h
      · refine q_tabIn (pc := 33) d_law_33 (off := 1527) (by omega) (by omega) (by rw [q4]; rfl) (tgt := 1560) (by decide) ?_
        replace h := h.2.2.2.2.2.2.2.2.2.2.2.2.2.2.2.2.2.2.2.2.2.2.2.2.2.2.2.2.2.2.2.2.2.2.2.2.2.2.2.2.2.2.2.2.1 (aw_ix (y := 43) q4 (by decide))
        exact h
      · refine q_tabIn (pc := 33) d_law_33 (off := 1560) (by omega) (by omega) (by rw [q4]; rfl) (tgt := 1593) (by decide) ?_
        replace h := h.2.2.2.2.2.2.2.2.2.2.2.2.2.2.2.2.2.2.2.2.2.2.2.2.2.2.2.2.2.2.2.2.2.2.2.2.2.2.2.2.2.2.2.2.2.1 (aw_ix (y := 44) q4 (by decide))
        exact h
      · refine q_tabIn (pc := 33) d_law_33 (off := 1573) (by omega) (by omega) (by rw [q4]; rfl) (tgt := 1606) (by decide) ?_
        replace h := h.2.2.2.2.2.2.2.2.2.2.2.2.2.2.2.2.2.2.2.2.2.2.2.2.2.2.2.2.2.2.2.2.2.2.2.2.2.2.2.2.2.2.2.2.2.2 (aw_ix (y := 45) q4 (by decide))
        exact h
set_option maxRecDepth 4000 in
theorem s_law_232 {l : Launch} {b0 L : Nat} {xs : Nat → Int32} {ce sl : Nat} {sh : aw_SH} {S : aw_S} {a m : Nat} {i3 : Int32} (hce : ce ≤ 600000) (hsl : sl ≤ 7302250) (sa : sh[a]? = some (0, 0)) (sm : sh[m]? = some (0, 11)) (h : Sp l m_Mg_status 200 0 0 [.ref a] sh S (gI sh (fun x2 S1 => Sp l m_Md_status 200 0 0 [.ref m] sh S1 (gI sh (fun x4 S3 => ((x2 = x4 → AL l b0 L xs ce sl 1619 [.float 0, .ref a, .ref m, .int i3] [] sh S3) ∧ (¬ x2 = x4 → False))))))) : AL l b0 L xs ce sl 232 [.float 0, .ref a, .ref m, .int i3] [] sh S := by
  refine q_aload_n (pc := 232) d_law_232 (x := a) rfl ?_
  refine q_callV (pc := 233) (k := a) (As := []) (rest := []) (mc' := 0) (ms' := 0) lk_Lw_13 in_Mg_status se_Mg_status sa rfl d_law_233 k_Mg_status rfl rfl (Nat.le_of_ble_eq_true rfl) (by omega) (by omega) (Sp.mono h ?_)
  rintro rS1 shS1 S1 ⟨qS1, x2, uS1, h⟩
  subst uS1
  rw [qS1]
  refine q_aload_n (pc := 236) d_law_236 (x := m) rfl ?_
  refine q_callV (pc := 237) (k := m) (As := []) (rest := [.int x2]) (mc' := 0) (ms' := 0) lk_Lw_17 in_Md_status se_Md_status sm rfl d_law_237 k_Md_status rfl rfl (Nat.le_of_ble_eq_true rfl) (by omega) (by omega) (Sp.mono h ?_)
  rintro rS3 shS3 S3 ⟨qS3, x4, uS3, h⟩
  subst uS3
  rw [qS3]
  refine q_icmp_eq (pc := 240) d_law_240 (tgt := 1619) (by decide) (fun c5 => ?_) (fun c5 => ?_)
  · replace h := h.1 c5
    exact h
  · replace h := h.2 c5
    refine q_iconst (pc := 243) d_law_243 (v := 0) (by decide) ?_
    exact h.elim
set_option maxRecDepth 4000 in
theorem s_law_245 {l : Launch} {b0 L : Nat} {xs : Nat → Int32} {ce sl : Nat} {sh : aw_SH} {S : aw_S} {a m : Nat} {i3 : Int32} (hce : ce ≤ 600000) (hsl : sl ≤ 7302250) (sa : sh[a]? = some (0, 0)) (sm : sh[m]? = some (0, 11)) (h : Sp l m_Mg_top 200 0 0 [.ref a] sh S (gL sh (fun x2 S1 => Sp l m_Md_top 200 0 0 [.ref m] sh S1 (gL sh (fun x4 S3 => (((lg_cmp x2 x4) = 0 → AL l b0 L xs ce sl 1619 [.float 0, .ref a, .ref m, .int i3] [] sh S3) ∧ (¬ (lg_cmp x2 x4) = 0 → False))))))) : AL l b0 L xs ce sl 245 [.float 0, .ref a, .ref m, .int i3] [] sh S := by
  refine q_aload_n (pc := 245) d_law_245 (x := a) rfl ?_
  refine q_callV (pc := 246) (k := a) (As := []) (rest := []) (mc' := 0) (ms' := 0) lk_Lw_18 in_Mg_top se_Mg_top sa rfl d_law_246 k_Mg_top rfl rfl (Nat.le_of_ble_eq_true rfl) (by omega) (by omega) (Sp.mono h ?_)
  rintro rS1 shS1 S1 ⟨qS1, x2, uS1, h⟩
  subst uS1
  rw [qS1]
  refine q_aload_n (pc := 249) d_law_249 (x := m) rfl ?_
  refine q_callV (pc := 250) (k := m) (As := []) (rest := [.long x2]) (mc' := 0) (ms' := 0) lk_Lw_22 in_Md_top se_Md_top sm rfl d_law_250 k_Md_top rfl rfl (Nat.le_of_ble_eq_true rfl) (by omega) (by omega) (Sp.mono h ?_)
  rintro rS3 shS3 S3 ⟨qS3, x4, uS3, h⟩
  subst uS3
  rw [qS3]
  refine q_lcmp (pc := 253) d_law_253 ?_
  refine q_if_eq (pc := 254) d_law_254 (tgt := 1619) (by decide) (fun c5 => ?_) (fun c5 => ?_)
  · replace h := h.1 c5
    exact h
  · replace h := h.2 c5
    refine q_iconst (pc := 257) d_law_257 (v := 0) (by decide) ?_
    exact h.elim
set_option maxRecDepth 4000 in
theorem s_law_259 {l : Launch} {b0 L : Nat} {xs : Nat → Int32} {ce sl : Nat} {sh : aw_SH} {S : aw_S} {a m : Nat} {i3 : Int32} (hce : ce ≤ 600000) (hsl : sl ≤ 7302250) (sa : sh[a]? = some (0, 0)) (sm : sh[m]? = some (0, 11)) (h : Sp l m_Mg_bottom 200 0 0 [.ref a] sh S (gL sh (fun x2 S1 => Sp l m_Md_bottom 200 0 0 [.ref m] sh S1 (gL sh (fun x4 S3 => (((lg_cmp x2 x4) = 0 → AL l b0 L xs ce sl 1619 [.float 0, .ref a, .ref m, .int i3] [] sh S3) ∧ (¬ (lg_cmp x2 x4) = 0 → False))))))) : AL l b0 L xs ce sl 259 [.float 0, .ref a, .ref m, .int i3] [] sh S := by
  refine q_aload_n (pc := 259) d_law_259 (x := a) rfl ?_
  refine q_callV (pc := 260) (k := a) (As := []) (rest := []) (mc' := 0) (ms' := 0) lk_Lw_23 in_Mg_bottom se_Mg_bottom sa rfl d_law_260 k_Mg_bottom rfl rfl (Nat.le_of_ble_eq_true rfl) (by omega) (by omega) (Sp.mono h ?_)
  rintro rS1 shS1 S1 ⟨qS1, x2, uS1, h⟩
  subst uS1
  rw [qS1]
  refine q_aload_n (pc := 263) d_law_263 (x := m) rfl ?_
  refine q_callV (pc := 264) (k := m) (As := []) (rest := [.long x2]) (mc' := 0) (ms' := 0) lk_Lw_26 in_Md_bottom se_Md_bottom sm rfl d_law_264 k_Md_bottom rfl rfl (Nat.le_of_ble_eq_true rfl) (by omega) (by omega) (Sp.mono h ?_)
  rintro rS3 shS3 S3 ⟨qS3, x4, uS3, h⟩
  subst uS3
  rw [qS3]
  refine q_lcmp (pc := 267) d_law_267 ?_
  refine q_if_eq (pc := 268) d_law_268 (tgt := 1619) (by decide) (fun c5 => ?_) (fun c5 => ?_)
  · replace h := h.1 c5
    exact h
  · replace h := h.2 c5
    refine q_iconst (pc := 271) d_law_271 (v := 0) (by decide) ?_
    exact h.elim
set_option maxRecDepth 4000 in
theorem s_law_273 {l : Launch} {b0 L : Nat} {xs : Nat → Int32} {ce sl : Nat} {sh : aw_SH} {S : aw_S} {a m : Nat} {i3 : Int32} (hce : ce ≤ 600000) (hsl : sl ≤ 7302250) (sa : sh[a]? = some (0, 0)) (sm : sh[m]? = some (0, 11)) (h : vp_in (i3 + (1 : Int32)) L ∧ vp_in (i3 + (2 : Int32)) L ∧ vp_in (i3 + (3 : Int32)) L ∧ Sp l m_Mg_tray 200 0 0 [.ref a, .int (xs (i3 + (1 : Int32) : Int32).toNatClampNeg), .int (xs (i3 + (2 : Int32) : Int32).toNatClampNeg), .int (xs (i3 + (3 : Int32) : Int32).toNatClampNeg)] sh S (gI sh (fun x136 S135 => Sp l m_Md_tray 200 0 0 [.ref m, .int (xs (i3 + (1 : Int32) : Int32).toNatClampNeg), .int (xs (i3 + (2 : Int32) : Int32).toNatClampNeg), .int (xs (i3 + (3 : Int32) : Int32).toNatClampNeg)] sh S135 (gI sh (fun x141 S140 => ((x136 = x141 → AL l b0 L xs ce sl 1619 [.float 0, .ref a, .ref m, .int i3] [] sh S140) ∧ (¬ x136 = x141 → False))))))) : AL l b0 L xs ce sl 273 [.float 0, .ref a, .ref m, .int i3] [] sh S := by
  refine q_aload_n (pc := 273) d_law_273 (x := a) rfl ?_
  refine q_aload_nX (pc := 274) d_law_274 (x := 0) rfl ?_
  refine q_iload_n (pc := 275) d_law_275 (x := i3) rfl ?_
  refine q_iconst (pc := 276) d_law_276 (v := 1) (by decide) ?_
  refine q_iadd (pc := 277) d_law_277 ?_
  obtain ⟨g1, h⟩ := h
  refine q_sld (pc := 278) d_law_278 g1 ?_
  refine q_aload_nX (pc := 279) d_law_279 (x := 0) rfl ?_
  refine q_iload_n (pc := 280) d_law_280 (x := i3) rfl ?_
  refine q_iconst (pc := 281) d_law_281 (v := 2) (by decide) ?_
  refine q_iadd (pc := 282) d_law_282 ?_
  obtain ⟨g91, h⟩ := h
  refine q_sld (pc := 283) d_law_283 g91 ?_
  refine q_aload_nX (pc := 284) d_law_284 (x := 0) rfl ?_
  refine q_iload_n (pc := 285) d_law_285 (x := i3) rfl ?_
  refine q_iconst (pc := 286) d_law_286 (v := 3) (by decide) ?_
  refine q_iadd (pc := 287) d_law_287 ?_
  obtain ⟨g123, h⟩ := h
  refine q_sld (pc := 288) d_law_288 g123 ?_
  refine q_callV (pc := 289) (k := a) (As := [.int (xs (i3 + (1 : Int32) : Int32).toNatClampNeg), .int (xs (i3 + (2 : Int32) : Int32).toNatClampNeg), .int (xs (i3 + (3 : Int32) : Int32).toNatClampNeg)]) (rest := []) (mc' := 0) (ms' := 0) lk_Lw_27 in_Mg_tray se_Mg_tray sa rfl d_law_289 k_Mg_tray rfl rfl (Nat.le_of_ble_eq_true rfl) (by omega) (by omega) (Sp.mono h ?_)
  rintro rS135 shS135 S135 ⟨qS135, x136, uS135, h⟩
  subst uS135
  rw [qS135]
  refine q_aload_n (pc := 292) d_law_292 (x := m) rfl ?_
  refine q_aload_nX (pc := 293) d_law_293 (x := 0) rfl ?_
  refine q_iload_n (pc := 294) d_law_294 (x := i3) rfl ?_
  refine q_iconst (pc := 295) d_law_295 (v := 1) (by decide) ?_
  refine q_iadd (pc := 296) d_law_296 ?_
  refine q_sld (pc := 297) d_law_297 g1 ?_
  refine q_aload_nX (pc := 298) d_law_298 (x := 0) rfl ?_
  refine q_iload_n (pc := 299) d_law_299 (x := i3) rfl ?_
  refine q_iconst (pc := 300) d_law_300 (v := 2) (by decide) ?_
  refine q_iadd (pc := 301) d_law_301 ?_
  refine q_sld (pc := 302) d_law_302 g91 ?_
  refine q_aload_nX (pc := 303) d_law_303 (x := 0) rfl ?_
  refine q_iload_n (pc := 304) d_law_304 (x := i3) rfl ?_
  refine q_iconst (pc := 305) d_law_305 (v := 3) (by decide) ?_
  refine q_iadd (pc := 306) d_law_306 ?_
  refine q_sld (pc := 307) d_law_307 g123 ?_
  refine q_callV (pc := 308) (k := m) (As := [.int (xs (i3 + (1 : Int32) : Int32).toNatClampNeg), .int (xs (i3 + (2 : Int32) : Int32).toNatClampNeg), .int (xs (i3 + (3 : Int32) : Int32).toNatClampNeg)]) (rest := [.int x136]) (mc' := 0) (ms' := 0) lk_Lw_31 in_Md_tray se_Md_tray sm rfl d_law_308 k_Md_tray rfl rfl (Nat.le_of_ble_eq_true rfl) (by omega) (by omega) (Sp.mono h ?_)
  rintro rS140 shS140 S140 ⟨qS140, x141, uS140, h⟩
  subst uS140
  rw [qS140]
  refine q_icmp_eq (pc := 311) d_law_311 (tgt := 1619) (by decide) (fun c142 => ?_) (fun c142 => ?_)
  · replace h := h.1 c142
    exact h
  · replace h := h.2 c142
    refine q_iconst (pc := 314) d_law_314 (v := 0) (by decide) ?_
    exact h.elim
set_option maxRecDepth 4000 in
theorem s_law_316 {l : Launch} {b0 L : Nat} {xs : Nat → Int32} {ce sl : Nat} {sh : aw_SH} {S : aw_S} {a m : Nat} {i3 : Int32} (hce : ce ≤ 600000) (hsl : sl ≤ 7302250) (sa : sh[a]? = some (0, 0)) (sm : sh[m]? = some (0, 11)) (h : vp_in (i3 + (1 : Int32)) L ∧ vp_in (i3 + (2 : Int32)) L ∧ vp_in (i3 + (3 : Int32)) L ∧ vp_in (i3 + (4 : Int32)) L ∧ Sp l m_Mg_write 200 0 0 [.ref a, .int (xs (i3 + (1 : Int32) : Int32).toNatClampNeg), .int (xs (i3 + (2 : Int32) : Int32).toNatClampNeg), .long ((((xs (i3 + (3 : Int32) : Int32).toNatClampNeg).toInt64) <<< (((32) : Int32).toInt64 &&& 63)) ||| (((xs (i3 + (4 : Int32) : Int32).toNatClampNeg).toInt64) &&& (4294967295 : Int64)))] sh S (gI sh (fun x413 S412 => Sp l m_Md_write 200 0 0 [.ref m, .int (xs (i3 + (1 : Int32) : Int32).toNatClampNeg), .int (xs (i3 + (2 : Int32) : Int32).toNatClampNeg), .long ((((xs (i3 + (3 : Int32) : Int32).toNatClampNeg).toInt64) <<< (((32) : Int32).toInt64 &&& 63)) ||| (((xs (i3 + (4 : Int32) : Int32).toNatClampNeg).toInt64) &&& (4294967295 : Int64)))] sh S412 (gI sh (fun x419 S418 => ((x413 = x419 → AL l b0 L xs ce sl 1619 [.float 0, .ref a, .ref m, .int i3] [] sh S418) ∧ (¬ x413 = x419 → False))))))) : AL l b0 L xs ce sl 316 [.float 0, .ref a, .ref m, .int i3] [] sh S := by
  refine q_aload_n (pc := 316) d_law_316 (x := a) rfl ?_
  refine q_aload_nX (pc := 317) d_law_317 (x := 0) rfl ?_
  refine q_iload_n (pc := 318) d_law_318 (x := i3) rfl ?_
  refine q_iconst (pc := 319) d_law_319 (v := 1) (by decide) ?_
  refine q_iadd (pc := 320) d_law_320 ?_
  obtain ⟨g1, h⟩ := h
  refine q_sld (pc := 321) d_law_321 g1 ?_
  refine q_aload_nX (pc := 322) d_law_322 (x := 0) rfl ?_
  refine q_iload_n (pc := 323) d_law_323 (x := i3) rfl ?_
  refine q_iconst (pc := 324) d_law_324 (v := 2) (by decide) ?_
  refine q_iadd (pc := 325) d_law_325 ?_
  obtain ⟨g271, h⟩ := h
  refine q_sld (pc := 326) d_law_326 g271 ?_
  refine q_aload_nX (pc := 327) d_law_327 (x := 0) rfl ?_
  refine q_iload_n (pc := 328) d_law_328 (x := i3) rfl ?_
  refine q_iconst (pc := 329) d_law_329 (v := 3) (by decide) ?_
  refine q_iadd (pc := 330) d_law_330 ?_
  obtain ⟨g365, h⟩ := h
  refine q_sld (pc := 331) d_law_331 g365 ?_
  refine q_i2l (pc := 332) d_law_332 ?_
  refine q_bipush (pc := 333) d_law_333 (v := 32) (by decide) ?_
  refine q_lshl (pc := 335) d_law_335 ?_
  refine q_aload_nX (pc := 336) d_law_336 (x := 0) rfl ?_
  refine q_iload_n (pc := 337) d_law_337 (x := i3) rfl ?_
  refine q_iconst (pc := 338) d_law_338 (v := 4) (by decide) ?_
  refine q_iadd (pc := 339) d_law_339 ?_
  obtain ⟨g399, h⟩ := h
  refine q_sld (pc := 340) d_law_340 g399 ?_
  refine q_i2l (pc := 341) d_law_341 ?_
  refine q_ldc2 (pc := 342) d_law_342 cl_Lw_32 ?_
  refine q_land (pc := 345) d_law_345 ?_
  refine q_lor (pc := 346) d_law_346 ?_
  refine q_callV (pc := 347) (k := a) (As := [.int (xs (i3 + (1 : Int32) : Int32).toNatClampNeg), .int (xs (i3 + (2 : Int32) : Int32).toNatClampNeg), .long ((((xs (i3 + (3 : Int32) : Int32).toNatClampNeg).toInt64) <<< (((32) : Int32).toInt64 &&& 63)) ||| (((xs (i3 + (4 : Int32) : Int32).toNatClampNeg).toInt64) &&& (4294967295 : Int64)))]) (rest := []) (mc' := 0) (ms' := 0) lk_Lw_34 in_Mg_write se_Mg_write sa rfl d_law_347 k_Mg_write rfl rfl (Nat.le_of_ble_eq_true rfl) (by omega) (by omega) (Sp.mono h ?_)
  rintro rS412 shS412 S412 ⟨qS412, x413, uS412, h⟩
  subst uS412
  rw [qS412]
  refine q_aload_n (pc := 350) d_law_350 (x := m) rfl ?_
  refine q_aload_nX (pc := 351) d_law_351 (x := 0) rfl ?_
  refine q_iload_n (pc := 352) d_law_352 (x := i3) rfl ?_
  refine q_iconst (pc := 353) d_law_353 (v := 1) (by decide) ?_
  refine q_iadd (pc := 354) d_law_354 ?_
  refine q_sld (pc := 355) d_law_355 g1 ?_
  refine q_aload_nX (pc := 356) d_law_356 (x := 0) rfl ?_
  refine q_iload_n (pc := 357) d_law_357 (x := i3) rfl ?_
  refine q_iconst (pc := 358) d_law_358 (v := 2) (by decide) ?_
  refine q_iadd (pc := 359) d_law_359 ?_
  refine q_sld (pc := 360) d_law_360 g271 ?_
  refine q_aload_nX (pc := 361) d_law_361 (x := 0) rfl ?_
  refine q_iload_n (pc := 362) d_law_362 (x := i3) rfl ?_
  refine q_iconst (pc := 363) d_law_363 (v := 3) (by decide) ?_
  refine q_iadd (pc := 364) d_law_364 ?_
  refine q_sld (pc := 365) d_law_365 g365 ?_
  refine q_i2l (pc := 366) d_law_366 ?_
  refine q_bipush (pc := 367) d_law_367 (v := 32) (by decide) ?_
  refine q_lshl (pc := 369) d_law_369 ?_
  refine q_aload_nX (pc := 370) d_law_370 (x := 0) rfl ?_
  refine q_iload_n (pc := 371) d_law_371 (x := i3) rfl ?_
  refine q_iconst (pc := 372) d_law_372 (v := 4) (by decide) ?_
  refine q_iadd (pc := 373) d_law_373 ?_
  refine q_sld (pc := 374) d_law_374 g399 ?_
  refine q_i2l (pc := 375) d_law_375 ?_
  refine q_ldc2 (pc := 376) d_law_376 cl_Lw_32 ?_
  refine q_land (pc := 379) d_law_379 ?_
  refine q_lor (pc := 380) d_law_380 ?_
  refine q_callV (pc := 381) (k := m) (As := [.int (xs (i3 + (1 : Int32) : Int32).toNatClampNeg), .int (xs (i3 + (2 : Int32) : Int32).toNatClampNeg), .long ((((xs (i3 + (3 : Int32) : Int32).toNatClampNeg).toInt64) <<< (((32) : Int32).toInt64 &&& 63)) ||| (((xs (i3 + (4 : Int32) : Int32).toNatClampNeg).toInt64) &&& (4294967295 : Int64)))]) (rest := [.int x413]) (mc' := 0) (ms' := 0) lk_Lw_38 in_Md_write se_Md_write sm rfl d_law_381 k_Md_write rfl rfl (Nat.le_of_ble_eq_true rfl) (by omega) (by omega) (Sp.mono h ?_)
  rintro rS418 shS418 S418 ⟨qS418, x419, uS418, h⟩
  subst uS418
  rw [qS418]
  refine q_icmp_eq (pc := 384) d_law_384 (tgt := 1619) (by decide) (fun c420 => ?_) (fun c420 => ?_)
  · replace h := h.1 c420
    exact h
  · replace h := h.2 c420
    refine q_iconst (pc := 387) d_law_387 (v := 0) (by decide) ?_
    exact h.elim
set_option maxRecDepth 4000 in
theorem s_law_389 {l : Launch} {b0 L : Nat} {xs : Nat → Int32} {ce sl : Nat} {sh : aw_SH} {S : aw_S} {a m : Nat} {i3 : Int32} (hce : ce ≤ 600000) (hsl : sl ≤ 7302250) (sa : sh[a]? = some (0, 0)) (sm : sh[m]? = some (0, 11)) (h : vp_in (i3 + (1 : Int32)) L ∧ vp_in (i3 + (2 : Int32)) L ∧ Sp l m_Mg_read 200 0 0 [.ref a, .int (xs (i3 + (1 : Int32) : Int32).toNatClampNeg), .int (xs (i3 + (2 : Int32) : Int32).toNatClampNeg)] sh S (gL sh (fun x43 S42 => Sp l m_Md_read 200 0 0 [.ref m, .int (xs (i3 + (1 : Int32) : Int32).toNatClampNeg), .int (xs (i3 + (2 : Int32) : Int32).toNatClampNeg)] sh S42 (gL sh (fun x47 S46 => (((lg_cmp x43 x47) = 0 → AL l b0 L xs ce sl 1619 [.float 0, .ref a, .ref m, .int i3] [] sh S46) ∧ (¬ (lg_cmp x43 x47) = 0 → False))))))) : AL l b0 L xs ce sl 389 [.float 0, .ref a, .ref m, .int i3] [] sh S := by
  refine q_aload_n (pc := 389) d_law_389 (x := a) rfl ?_
  refine q_aload_nX (pc := 390) d_law_390 (x := 0) rfl ?_
  refine q_iload_n (pc := 391) d_law_391 (x := i3) rfl ?_
  refine q_iconst (pc := 392) d_law_392 (v := 1) (by decide) ?_
  refine q_iadd (pc := 393) d_law_393 ?_
  obtain ⟨g1, h⟩ := h
  refine q_sld (pc := 394) d_law_394 g1 ?_
  refine q_aload_nX (pc := 395) d_law_395 (x := 0) rfl ?_
  refine q_iload_n (pc := 396) d_law_396 (x := i3) rfl ?_
  refine q_iconst (pc := 397) d_law_397 (v := 2) (by decide) ?_
  refine q_iadd (pc := 398) d_law_398 ?_
  obtain ⟨g31, h⟩ := h
  refine q_sld (pc := 399) d_law_399 g31 ?_
  refine q_callV (pc := 400) (k := a) (As := [.int (xs (i3 + (1 : Int32) : Int32).toNatClampNeg), .int (xs (i3 + (2 : Int32) : Int32).toNatClampNeg)]) (rest := []) (mc' := 0) (ms' := 0) lk_Lw_39 in_Mg_read se_Mg_read sa rfl d_law_400 k_Mg_read rfl rfl (Nat.le_of_ble_eq_true rfl) (by omega) (by omega) (Sp.mono h ?_)
  rintro rS42 shS42 S42 ⟨qS42, x43, uS42, h⟩
  subst uS42
  rw [qS42]
  refine q_aload_n (pc := 403) d_law_403 (x := m) rfl ?_
  refine q_aload_nX (pc := 404) d_law_404 (x := 0) rfl ?_
  refine q_iload_n (pc := 405) d_law_405 (x := i3) rfl ?_
  refine q_iconst (pc := 406) d_law_406 (v := 1) (by decide) ?_
  refine q_iadd (pc := 407) d_law_407 ?_
  refine q_sld (pc := 408) d_law_408 g1 ?_
  refine q_aload_nX (pc := 409) d_law_409 (x := 0) rfl ?_
  refine q_iload_n (pc := 410) d_law_410 (x := i3) rfl ?_
  refine q_iconst (pc := 411) d_law_411 (v := 2) (by decide) ?_
  refine q_iadd (pc := 412) d_law_412 ?_
  refine q_sld (pc := 413) d_law_413 g31 ?_
  refine q_callV (pc := 414) (k := m) (As := [.int (xs (i3 + (1 : Int32) : Int32).toNatClampNeg), .int (xs (i3 + (2 : Int32) : Int32).toNatClampNeg)]) (rest := [.long x43]) (mc' := 0) (ms' := 0) lk_Lw_43 in_Md_read se_Md_read sm rfl d_law_414 k_Md_read rfl rfl (Nat.le_of_ble_eq_true rfl) (by omega) (by omega) (Sp.mono h ?_)
  rintro rS46 shS46 S46 ⟨qS46, x47, uS46, h⟩
  subst uS46
  rw [qS46]
  refine q_lcmp (pc := 417) d_law_417 ?_
  refine q_if_eq (pc := 418) d_law_418 (tgt := 1619) (by decide) (fun c48 => ?_) (fun c48 => ?_)
  · replace h := h.1 c48
    exact h
  · replace h := h.2 c48
    refine q_iconst (pc := 421) d_law_421 (v := 0) (by decide) ?_
    exact h.elim
set_option maxRecDepth 4000 in
theorem s_law_423 {l : Launch} {b0 L : Nat} {xs : Nat → Int32} {ce sl : Nat} {sh : aw_SH} {S : aw_S} {a m : Nat} {i3 : Int32} (hce : ce ≤ 600000) (hsl : sl ≤ 7302250) (sa : sh[a]? = some (0, 0)) (sm : sh[m]? = some (0, 11)) (h : vp_in (i3 + (1 : Int32)) L ∧ vp_in (i3 + (2 : Int32)) L ∧ vp_in (i3 + (3 : Int32)) L ∧ vp_in (i3 + (4 : Int32)) L ∧ vp_in (i3 + (5 : Int32)) L ∧ Sp l m_Mg_pour 200 0 0 [.ref a, .int (xs (i3 + (1 : Int32) : Int32).toNatClampNeg), .int (xs (i3 + (2 : Int32) : Int32).toNatClampNeg), .int (xs (i3 + (3 : Int32) : Int32).toNatClampNeg), .int (xs (i3 + (4 : Int32) : Int32).toNatClampNeg), .int (xs (i3 + (5 : Int32) : Int32).toNatClampNeg)] sh S (gI sh (fun x1238 S1237 => Sp l m_Md_pour 200 0 0 [.ref m, .int (xs (i3 + (1 : Int32) : Int32).toNatClampNeg), .int (xs (i3 + (2 : Int32) : Int32).toNatClampNeg), .int (xs (i3 + (3 : Int32) : Int32).toNatClampNeg), .int (xs (i3 + (4 : Int32) : Int32).toNatClampNeg), .int (xs (i3 + (5 : Int32) : Int32).toNatClampNeg)] sh S1237 (gI sh (fun x1245 S1244 => ((x1238 = x1245 → AL l b0 L xs ce sl 1619 [.float 0, .ref a, .ref m, .int i3] [] sh S1244) ∧ (¬ x1238 = x1245 → False))))))) : AL l b0 L xs ce sl 423 [.float 0, .ref a, .ref m, .int i3] [] sh S := by
  refine q_aload_n (pc := 423) d_law_423 (x := a) rfl ?_
  refine q_aload_nX (pc := 424) d_law_424 (x := 0) rfl ?_
  refine q_iload_n (pc := 425) d_law_425 (x := i3) rfl ?_
  refine q_iconst (pc := 426) d_law_426 (v := 1) (by decide) ?_
  refine q_iadd (pc := 427) d_law_427 ?_
  obtain ⟨g1, h⟩ := h
  refine q_sld (pc := 428) d_law_428 g1 ?_
  refine q_aload_nX (pc := 429) d_law_429 (x := 0) rfl ?_
  refine q_iload_n (pc := 430) d_law_430 (x := i3) rfl ?_
  refine q_iconst (pc := 431) d_law_431 (v := 2) (by decide) ?_
  refine q_iadd (pc := 432) d_law_432 ?_
  obtain ⟨g811, h⟩ := h
  refine q_sld (pc := 433) d_law_433 g811 ?_
  refine q_aload_nX (pc := 434) d_law_434 (x := 0) rfl ?_
  refine q_iload_n (pc := 435) d_law_435 (x := i3) rfl ?_
  refine q_iconst (pc := 436) d_law_436 (v := 3) (by decide) ?_
  refine q_iadd (pc := 437) d_law_437 ?_
  obtain ⟨g1089, h⟩ := h
  refine q_sld (pc := 438) d_law_438 g1089 ?_
  refine q_aload_nX (pc := 439) d_law_439 (x := 0) rfl ?_
  refine q_iload_n (pc := 440) d_law_440 (x := i3) rfl ?_
  refine q_iconst (pc := 441) d_law_441 (v := 4) (by decide) ?_
  refine q_iadd (pc := 442) d_law_442 ?_
  obtain ⟨g1187, h⟩ := h
  refine q_sld (pc := 443) d_law_443 g1187 ?_
  refine q_aload_nX (pc := 444) d_law_444 (x := 0) rfl ?_
  refine q_iload_n (pc := 445) d_law_445 (x := i3) rfl ?_
  refine q_iconst (pc := 446) d_law_446 (v := 5) (by decide) ?_
  refine q_iadd (pc := 447) d_law_447 ?_
  obtain ⟨g1223, h⟩ := h
  refine q_sld (pc := 448) d_law_448 g1223 ?_
  refine q_callV (pc := 449) (k := a) (As := [.int (xs (i3 + (1 : Int32) : Int32).toNatClampNeg), .int (xs (i3 + (2 : Int32) : Int32).toNatClampNeg), .int (xs (i3 + (3 : Int32) : Int32).toNatClampNeg), .int (xs (i3 + (4 : Int32) : Int32).toNatClampNeg), .int (xs (i3 + (5 : Int32) : Int32).toNatClampNeg)]) (rest := []) (mc' := 0) (ms' := 0) lk_Lw_44 in_Mg_pour se_Mg_pour sa rfl d_law_449 k_Mg_pour rfl rfl (Nat.le_of_ble_eq_true rfl) (by omega) (by omega) (Sp.mono h ?_)
  rintro rS1237 shS1237 S1237 ⟨qS1237, x1238, uS1237, h⟩
  subst uS1237
  rw [qS1237]
  refine q_aload_n (pc := 452) d_law_452 (x := m) rfl ?_
  refine q_aload_nX (pc := 453) d_law_453 (x := 0) rfl ?_
  refine q_iload_n (pc := 454) d_law_454 (x := i3) rfl ?_
  refine q_iconst (pc := 455) d_law_455 (v := 1) (by decide) ?_
  refine q_iadd (pc := 456) d_law_456 ?_
  refine q_sld (pc := 457) d_law_457 g1 ?_
  refine q_aload_nX (pc := 458) d_law_458 (x := 0) rfl ?_
  refine q_iload_n (pc := 459) d_law_459 (x := i3) rfl ?_
  refine q_iconst (pc := 460) d_law_460 (v := 2) (by decide) ?_
  refine q_iadd (pc := 461) d_law_461 ?_
  refine q_sld (pc := 462) d_law_462 g811 ?_
  refine q_aload_nX (pc := 463) d_law_463 (x := 0) rfl ?_
  refine q_iload_n (pc := 464) d_law_464 (x := i3) rfl ?_
  refine q_iconst (pc := 465) d_law_465 (v := 3) (by decide) ?_
  refine q_iadd (pc := 466) d_law_466 ?_
  refine q_sld (pc := 467) d_law_467 g1089 ?_
  refine q_aload_nX (pc := 468) d_law_468 (x := 0) rfl ?_
  refine q_iload_n (pc := 469) d_law_469 (x := i3) rfl ?_
  refine q_iconst (pc := 470) d_law_470 (v := 4) (by decide) ?_
  refine q_iadd (pc := 471) d_law_471 ?_
  refine q_sld (pc := 472) d_law_472 g1187 ?_
  refine q_aload_nX (pc := 473) d_law_473 (x := 0) rfl ?_
  refine q_iload_n (pc := 474) d_law_474 (x := i3) rfl ?_
  refine q_iconst (pc := 475) d_law_475 (v := 5) (by decide) ?_
  refine q_iadd (pc := 476) d_law_476 ?_
  refine q_sld (pc := 477) d_law_477 g1223 ?_
  refine q_callV (pc := 478) (k := m) (As := [.int (xs (i3 + (1 : Int32) : Int32).toNatClampNeg), .int (xs (i3 + (2 : Int32) : Int32).toNatClampNeg), .int (xs (i3 + (3 : Int32) : Int32).toNatClampNeg), .int (xs (i3 + (4 : Int32) : Int32).toNatClampNeg), .int (xs (i3 + (5 : Int32) : Int32).toNatClampNeg)]) (rest := [.int x1238]) (mc' := 0) (ms' := 0) lk_Lw_48 in_Md_pour se_Md_pour sm rfl d_law_478 k_Md_pour rfl rfl (Nat.le_of_ble_eq_true rfl) (by omega) (by omega) (Sp.mono h ?_)
  rintro rS1244 shS1244 S1244 ⟨qS1244, x1245, uS1244, h⟩
  subst uS1244
  rw [qS1244]
  refine q_icmp_eq (pc := 481) d_law_481 (tgt := 1619) (by decide) (fun c1246 => ?_) (fun c1246 => ?_)
  · replace h := h.1 c1246
    exact h
  · replace h := h.2 c1246
    refine q_iconst (pc := 484) d_law_484 (v := 0) (by decide) ?_
    exact h.elim
set_option maxRecDepth 4000 in
theorem s_law_486 {l : Launch} {b0 L : Nat} {xs : Nat → Int32} {ce sl : Nat} {sh : aw_SH} {S : aw_S} {a m : Nat} {i3 : Int32} (hce : ce ≤ 600000) (hsl : sl ≤ 7302250) (sa : sh[a]? = some (0, 0)) (sm : sh[m]? = some (0, 11)) (h : vp_in (i3 + (1 : Int32)) L ∧ vp_in (i3 + (2 : Int32)) L ∧ vp_in (i3 + (3 : Int32)) L ∧ vp_in (i3 + (4 : Int32)) L ∧ vp_in (i3 + (5 : Int32)) L ∧ Sp l m_Mg_feed 200 0 0 [.ref a, .int (xs (i3 + (1 : Int32) : Int32).toNatClampNeg), .int (xs (i3 + (2 : Int32) : Int32).toNatClampNeg), .int (xs (i3 + (3 : Int32) : Int32).toNatClampNeg), .int (xs (i3 + (4 : Int32) : Int32).toNatClampNeg), .int (xs (i3 + (5 : Int32) : Int32).toNatClampNeg)] sh S (gI sh (fun x1238 S1237 => Sp l m_Md_feed 200 0 0 [.ref m, .int (xs (i3 + (1 : Int32) : Int32).toNatClampNeg), .int (xs (i3 + (2 : Int32) : Int32).toNatClampNeg), .int (xs (i3 + (3 : Int32) : Int32).toNatClampNeg), .int (xs (i3 + (4 : Int32) : Int32).toNatClampNeg), .int (xs (i3 + (5 : Int32) : Int32).toNatClampNeg)] sh S1237 (gI sh (fun x1245 S1244 => ((x1238 = x1245 → AL l b0 L xs ce sl 1619 [.float 0, .ref a, .ref m, .int i3] [] sh S1244) ∧ (¬ x1238 = x1245 → False))))))) : AL l b0 L xs ce sl 486 [.float 0, .ref a, .ref m, .int i3] [] sh S := by
  refine q_aload_n (pc := 486) d_law_486 (x := a) rfl ?_
  refine q_aload_nX (pc := 487) d_law_487 (x := 0) rfl ?_
  refine q_iload_n (pc := 488) d_law_488 (x := i3) rfl ?_
  refine q_iconst (pc := 489) d_law_489 (v := 1) (by decide) ?_
  refine q_iadd (pc := 490) d_law_490 ?_
  obtain ⟨g1, h⟩ := h
  refine q_sld (pc := 491) d_law_491 g1 ?_
  refine q_aload_nX (pc := 492) d_law_492 (x := 0) rfl ?_
  refine q_iload_n (pc := 493) d_law_493 (x := i3) rfl ?_
  refine q_iconst (pc := 494) d_law_494 (v := 2) (by decide) ?_
  refine q_iadd (pc := 495) d_law_495 ?_
  obtain ⟨g811, h⟩ := h
  refine q_sld (pc := 496) d_law_496 g811 ?_
  refine q_aload_nX (pc := 497) d_law_497 (x := 0) rfl ?_
  refine q_iload_n (pc := 498) d_law_498 (x := i3) rfl ?_
  refine q_iconst (pc := 499) d_law_499 (v := 3) (by decide) ?_
  refine q_iadd (pc := 500) d_law_500 ?_
  obtain ⟨g1089, h⟩ := h
  refine q_sld (pc := 501) d_law_501 g1089 ?_
  refine q_aload_nX (pc := 502) d_law_502 (x := 0) rfl ?_
  refine q_iload_n (pc := 503) d_law_503 (x := i3) rfl ?_
  refine q_iconst (pc := 504) d_law_504 (v := 4) (by decide) ?_
  refine q_iadd (pc := 505) d_law_505 ?_
  obtain ⟨g1187, h⟩ := h
  refine q_sld (pc := 506) d_law_506 g1187 ?_
  refine q_aload_nX (pc := 507) d_law_507 (x := 0) rfl ?_
  refine q_iload_n (pc := 508) d_law_508 (x := i3) rfl ?_
  refine q_iconst (pc := 509) d_law_509 (v := 5) (by decide) ?_
  refine q_iadd (pc := 510) d_law_510 ?_
  obtain ⟨g1223, h⟩ := h
  refine q_sld (pc := 511) d_law_511 g1223 ?_
  refine q_callV (pc := 512) (k := a) (As := [.int (xs (i3 + (1 : Int32) : Int32).toNatClampNeg), .int (xs (i3 + (2 : Int32) : Int32).toNatClampNeg), .int (xs (i3 + (3 : Int32) : Int32).toNatClampNeg), .int (xs (i3 + (4 : Int32) : Int32).toNatClampNeg), .int (xs (i3 + (5 : Int32) : Int32).toNatClampNeg)]) (rest := []) (mc' := 0) (ms' := 0) lk_Lw_49 in_Mg_feed se_Mg_feed sa rfl d_law_512 k_Mg_feed rfl rfl (Nat.le_of_ble_eq_true rfl) (by omega) (by omega) (Sp.mono h ?_)
  rintro rS1237 shS1237 S1237 ⟨qS1237, x1238, uS1237, h⟩
  subst uS1237
  rw [qS1237]
  refine q_aload_n (pc := 515) d_law_515 (x := m) rfl ?_
  refine q_aload_nX (pc := 516) d_law_516 (x := 0) rfl ?_
  refine q_iload_n (pc := 517) d_law_517 (x := i3) rfl ?_
  refine q_iconst (pc := 518) d_law_518 (v := 1) (by decide) ?_
  refine q_iadd (pc := 519) d_law_519 ?_
  refine q_sld (pc := 520) d_law_520 g1 ?_
  refine q_aload_nX (pc := 521) d_law_521 (x := 0) rfl ?_
  refine q_iload_n (pc := 522) d_law_522 (x := i3) rfl ?_
  refine q_iconst (pc := 523) d_law_523 (v := 2) (by decide) ?_
  refine q_iadd (pc := 524) d_law_524 ?_
  refine q_sld (pc := 525) d_law_525 g811 ?_
  refine q_aload_nX (pc := 526) d_law_526 (x := 0) rfl ?_
  refine q_iload_n (pc := 527) d_law_527 (x := i3) rfl ?_
  refine q_iconst (pc := 528) d_law_528 (v := 3) (by decide) ?_
  refine q_iadd (pc := 529) d_law_529 ?_
  refine q_sld (pc := 530) d_law_530 g1089 ?_
  refine q_aload_nX (pc := 531) d_law_531 (x := 0) rfl ?_
  refine q_iload_n (pc := 532) d_law_532 (x := i3) rfl ?_
  refine q_iconst (pc := 533) d_law_533 (v := 4) (by decide) ?_
  refine q_iadd (pc := 534) d_law_534 ?_
  refine q_sld (pc := 535) d_law_535 g1187 ?_
  refine q_aload_nX (pc := 536) d_law_536 (x := 0) rfl ?_
  refine q_iload_n (pc := 537) d_law_537 (x := i3) rfl ?_
  refine q_iconst (pc := 538) d_law_538 (v := 5) (by decide) ?_
  refine q_iadd (pc := 539) d_law_539 ?_
  refine q_sld (pc := 540) d_law_540 g1223 ?_
  refine q_callV (pc := 541) (k := m) (As := [.int (xs (i3 + (1 : Int32) : Int32).toNatClampNeg), .int (xs (i3 + (2 : Int32) : Int32).toNatClampNeg), .int (xs (i3 + (3 : Int32) : Int32).toNatClampNeg), .int (xs (i3 + (4 : Int32) : Int32).toNatClampNeg), .int (xs (i3 + (5 : Int32) : Int32).toNatClampNeg)]) (rest := [.int x1238]) (mc' := 0) (ms' := 0) lk_Lw_53 in_Md_feed se_Md_feed sm rfl d_law_541 k_Md_feed rfl rfl (Nat.le_of_ble_eq_true rfl) (by omega) (by omega) (Sp.mono h ?_)
  rintro rS1244 shS1244 S1244 ⟨qS1244, x1245, uS1244, h⟩
  subst uS1244
  rw [qS1244]
  refine q_icmp_eq (pc := 544) d_law_544 (tgt := 1619) (by decide) (fun c1246 => ?_) (fun c1246 => ?_)
  · replace h := h.1 c1246
    exact h
  · replace h := h.2 c1246
    refine q_iconst (pc := 547) d_law_547 (v := 0) (by decide) ?_
    exact h.elim
set_option maxRecDepth 4000 in
theorem s_law_549 {l : Launch} {b0 L : Nat} {xs : Nat → Int32} {ce sl : Nat} {sh : aw_SH} {S : aw_S} {a m : Nat} {i3 : Int32} (hce : ce ≤ 600000) (hsl : sl ≤ 7302250) (sa : sh[a]? = some (0, 0)) (sm : sh[m]? = some (0, 11)) (h : vp_in (i3 + (1 : Int32)) L ∧ Sp l m_Mg_green 200 0 0 [.ref a, .int (xs (i3 + (1 : Int32) : Int32).toNatClampNeg)] sh S (gI sh (fun x12 S11 => Sp l m_Md_green 200 0 0 [.ref m, .int (xs (i3 + (1 : Int32) : Int32).toNatClampNeg)] sh S11 (gI sh (fun x15 S14 => ((x12 = x15 → AL l b0 L xs ce sl 1619 [.float 0, .ref a, .ref m, .int i3] [] sh S14) ∧ (¬ x12 = x15 → False))))))) : AL l b0 L xs ce sl 549 [.float 0, .ref a, .ref m, .int i3] [] sh S := by
  refine q_aload_n (pc := 549) d_law_549 (x := a) rfl ?_
  refine q_aload_nX (pc := 550) d_law_550 (x := 0) rfl ?_
  refine q_iload_n (pc := 551) d_law_551 (x := i3) rfl ?_
  refine q_iconst (pc := 552) d_law_552 (v := 1) (by decide) ?_
  refine q_iadd (pc := 553) d_law_553 ?_
  obtain ⟨g1, h⟩ := h
  refine q_sld (pc := 554) d_law_554 g1 ?_
  refine q_callV (pc := 555) (k := a) (As := [.int (xs (i3 + (1 : Int32) : Int32).toNatClampNeg)]) (rest := []) (mc' := 0) (ms' := 0) lk_Lw_54 in_Mg_green se_Mg_green sa rfl d_law_555 k_Mg_green rfl rfl (Nat.le_of_ble_eq_true rfl) (by omega) (by omega) (Sp.mono h ?_)
  rintro rS11 shS11 S11 ⟨qS11, x12, uS11, h⟩
  subst uS11
  rw [qS11]
  refine q_aload_n (pc := 558) d_law_558 (x := m) rfl ?_
  refine q_aload_nX (pc := 559) d_law_559 (x := 0) rfl ?_
  refine q_iload_n (pc := 560) d_law_560 (x := i3) rfl ?_
  refine q_iconst (pc := 561) d_law_561 (v := 1) (by decide) ?_
  refine q_iadd (pc := 562) d_law_562 ?_
  refine q_sld (pc := 563) d_law_563 g1 ?_
  refine q_callV (pc := 564) (k := m) (As := [.int (xs (i3 + (1 : Int32) : Int32).toNatClampNeg)]) (rest := [.int x12]) (mc' := 0) (ms' := 0) lk_Lw_58 in_Md_green se_Md_green sm rfl d_law_564 k_Md_green rfl rfl (Nat.le_of_ble_eq_true rfl) (by omega) (by omega) (Sp.mono h ?_)
  rintro rS14 shS14 S14 ⟨qS14, x15, uS14, h⟩
  subst uS14
  rw [qS14]
  refine q_icmp_eq (pc := 567) d_law_567 (tgt := 1619) (by decide) (fun c16 => ?_) (fun c16 => ?_)
  · replace h := h.1 c16
    exact h
  · replace h := h.2 c16
    refine q_iconst (pc := 570) d_law_570 (v := 0) (by decide) ?_
    exact h.elim
set_option maxRecDepth 4000 in
theorem s_law_572 {l : Launch} {b0 L : Nat} {xs : Nat → Int32} {ce sl : Nat} {sh : aw_SH} {S : aw_S} {a m : Nat} {i3 : Int32} (hce : ce ≤ 600000) (hsl : sl ≤ 7302250) (sa : sh[a]? = some (0, 0)) (sm : sh[m]? = some (0, 11)) (h : vp_in (i3 + (1 : Int32)) L ∧ Sp l m_Mg_feasts 200 0 0 [.ref a, .int (xs (i3 + (1 : Int32) : Int32).toNatClampNeg)] sh S (gI sh (fun x12 S11 => Sp l m_Md_feasts 200 0 0 [.ref m, .int (xs (i3 + (1 : Int32) : Int32).toNatClampNeg)] sh S11 (gI sh (fun x15 S14 => ((x12 = x15 → AL l b0 L xs ce sl 1619 [.float 0, .ref a, .ref m, .int i3] [] sh S14) ∧ (¬ x12 = x15 → False))))))) : AL l b0 L xs ce sl 572 [.float 0, .ref a, .ref m, .int i3] [] sh S := by
  refine q_aload_n (pc := 572) d_law_572 (x := a) rfl ?_
  refine q_aload_nX (pc := 573) d_law_573 (x := 0) rfl ?_
  refine q_iload_n (pc := 574) d_law_574 (x := i3) rfl ?_
  refine q_iconst (pc := 575) d_law_575 (v := 1) (by decide) ?_
  refine q_iadd (pc := 576) d_law_576 ?_
  obtain ⟨g1, h⟩ := h
  refine q_sld (pc := 577) d_law_577 g1 ?_
  refine q_callV (pc := 578) (k := a) (As := [.int (xs (i3 + (1 : Int32) : Int32).toNatClampNeg)]) (rest := []) (mc' := 0) (ms' := 0) lk_Lw_59 in_Mg_feasts se_Mg_feasts sa rfl d_law_578 k_Mg_feasts rfl rfl (Nat.le_of_ble_eq_true rfl) (by omega) (by omega) (Sp.mono h ?_)
  rintro rS11 shS11 S11 ⟨qS11, x12, uS11, h⟩
  subst uS11
  rw [qS11]
  refine q_aload_n (pc := 581) d_law_581 (x := m) rfl ?_
  refine q_aload_nX (pc := 582) d_law_582 (x := 0) rfl ?_
  refine q_iload_n (pc := 583) d_law_583 (x := i3) rfl ?_
  refine q_iconst (pc := 584) d_law_584 (v := 1) (by decide) ?_
  refine q_iadd (pc := 585) d_law_585 ?_
  refine q_sld (pc := 586) d_law_586 g1 ?_
  refine q_callV (pc := 587) (k := m) (As := [.int (xs (i3 + (1 : Int32) : Int32).toNatClampNeg)]) (rest := [.int x12]) (mc' := 0) (ms' := 0) lk_Lw_62 in_Md_feasts se_Md_feasts sm rfl d_law_587 k_Md_feasts rfl rfl (Nat.le_of_ble_eq_true rfl) (by omega) (by omega) (Sp.mono h ?_)
  rintro rS14 shS14 S14 ⟨qS14, x15, uS14, h⟩
  subst uS14
  rw [qS14]
  refine q_icmp_eq (pc := 590) d_law_590 (tgt := 1619) (by decide) (fun c16 => ?_) (fun c16 => ?_)
  · replace h := h.1 c16
    exact h
  · replace h := h.2 c16
    refine q_iconst (pc := 593) d_law_593 (v := 0) (by decide) ?_
    exact h.elim
set_option maxRecDepth 4000 in
theorem s_law_595 {l : Launch} {b0 L : Nat} {xs : Nat → Int32} {ce sl : Nat} {sh : aw_SH} {S : aw_S} {a m : Nat} {i3 : Int32} (hce : ce ≤ 600000) (hsl : sl ≤ 7302250) (sa : sh[a]? = some (0, 0)) (sm : sh[m]? = some (0, 11)) (h : vp_in (i3 + (1 : Int32)) L ∧ Sp l m_Mg_fault 200 0 0 [.ref a, .int (xs (i3 + (1 : Int32) : Int32).toNatClampNeg)] sh S (gI sh (fun x12 S11 => Sp l m_Md_fault 200 0 0 [.ref m, .int (xs (i3 + (1 : Int32) : Int32).toNatClampNeg)] sh S11 (gI sh (fun x15 S14 => ((x12 = x15 → AL l b0 L xs ce sl 1619 [.float 0, .ref a, .ref m, .int i3] [] sh S14) ∧ (¬ x12 = x15 → False))))))) : AL l b0 L xs ce sl 595 [.float 0, .ref a, .ref m, .int i3] [] sh S := by
  refine q_aload_n (pc := 595) d_law_595 (x := a) rfl ?_
  refine q_aload_nX (pc := 596) d_law_596 (x := 0) rfl ?_
  refine q_iload_n (pc := 597) d_law_597 (x := i3) rfl ?_
  refine q_iconst (pc := 598) d_law_598 (v := 1) (by decide) ?_
  refine q_iadd (pc := 599) d_law_599 ?_
  obtain ⟨g1, h⟩ := h
  refine q_sld (pc := 600) d_law_600 g1 ?_
  refine q_callV (pc := 601) (k := a) (As := [.int (xs (i3 + (1 : Int32) : Int32).toNatClampNeg)]) (rest := []) (mc' := 0) (ms' := 0) lk_Lw_63 in_Mg_fault se_Mg_fault sa rfl d_law_601 k_Mg_fault rfl rfl (Nat.le_of_ble_eq_true rfl) (by omega) (by omega) (Sp.mono h ?_)
  rintro rS11 shS11 S11 ⟨qS11, x12, uS11, h⟩
  subst uS11
  rw [qS11]
  refine q_aload_n (pc := 604) d_law_604 (x := m) rfl ?_
  refine q_aload_nX (pc := 605) d_law_605 (x := 0) rfl ?_
  refine q_iload_n (pc := 606) d_law_606 (x := i3) rfl ?_
  refine q_iconst (pc := 607) d_law_607 (v := 1) (by decide) ?_
  refine q_iadd (pc := 608) d_law_608 ?_
  refine q_sld (pc := 609) d_law_609 g1 ?_
  refine q_callV (pc := 610) (k := m) (As := [.int (xs (i3 + (1 : Int32) : Int32).toNatClampNeg)]) (rest := [.int x12]) (mc' := 0) (ms' := 0) lk_Lw_66 in_Md_fault se_Md_fault sm rfl d_law_610 k_Md_fault rfl rfl (Nat.le_of_ble_eq_true rfl) (by omega) (by omega) (Sp.mono h ?_)
  rintro rS14 shS14 S14 ⟨qS14, x15, uS14, h⟩
  subst uS14
  rw [qS14]
  refine q_icmp_eq (pc := 613) d_law_613 (tgt := 1619) (by decide) (fun c16 => ?_) (fun c16 => ?_)
  · replace h := h.1 c16
    exact h
  · replace h := h.2 c16
    refine q_iconst (pc := 616) d_law_616 (v := 0) (by decide) ?_
    exact h.elim
set_option maxRecDepth 4000 in
theorem s_law_618 {l : Launch} {b0 L : Nat} {xs : Nat → Int32} {ce sl : Nat} {sh : aw_SH} {S : aw_S} {a m : Nat} {i3 : Int32} (hce : ce ≤ 600000) (hsl : sl ≤ 7302250) (sa : sh[a]? = some (0, 0)) (sm : sh[m]? = some (0, 11)) (h : vp_in (i3 + (1 : Int32)) L ∧ Sp l m_Mg_told 200 0 0 [.ref a, .int (xs (i3 + (1 : Int32) : Int32).toNatClampNeg)] sh S (gI sh (fun x12 S11 => Sp l m_Md_told 200 0 0 [.ref m, .int (xs (i3 + (1 : Int32) : Int32).toNatClampNeg)] sh S11 (gI sh (fun x15 S14 => ((x12 = x15 → AL l b0 L xs ce sl 1619 [.float 0, .ref a, .ref m, .int i3] [] sh S14) ∧ (¬ x12 = x15 → False))))))) : AL l b0 L xs ce sl 618 [.float 0, .ref a, .ref m, .int i3] [] sh S := by
  refine q_aload_n (pc := 618) d_law_618 (x := a) rfl ?_
  refine q_aload_nX (pc := 619) d_law_619 (x := 0) rfl ?_
  refine q_iload_n (pc := 620) d_law_620 (x := i3) rfl ?_
  refine q_iconst (pc := 621) d_law_621 (v := 1) (by decide) ?_
  refine q_iadd (pc := 622) d_law_622 ?_
  obtain ⟨g1, h⟩ := h
  refine q_sld (pc := 623) d_law_623 g1 ?_
  refine q_callV (pc := 624) (k := a) (As := [.int (xs (i3 + (1 : Int32) : Int32).toNatClampNeg)]) (rest := []) (mc' := 0) (ms' := 0) lk_Lw_67 in_Mg_told se_Mg_told sa rfl d_law_624 k_Mg_told rfl rfl (Nat.le_of_ble_eq_true rfl) (by omega) (by omega) (Sp.mono h ?_)
  rintro rS11 shS11 S11 ⟨qS11, x12, uS11, h⟩
  subst uS11
  rw [qS11]
  refine q_aload_n (pc := 627) d_law_627 (x := m) rfl ?_
  refine q_aload_nX (pc := 628) d_law_628 (x := 0) rfl ?_
  refine q_iload_n (pc := 629) d_law_629 (x := i3) rfl ?_
  refine q_iconst (pc := 630) d_law_630 (v := 1) (by decide) ?_
  refine q_iadd (pc := 631) d_law_631 ?_
  refine q_sld (pc := 632) d_law_632 g1 ?_
  refine q_callV (pc := 633) (k := m) (As := [.int (xs (i3 + (1 : Int32) : Int32).toNatClampNeg)]) (rest := [.int x12]) (mc' := 0) (ms' := 0) lk_Lw_70 in_Md_told se_Md_told sm rfl d_law_633 k_Md_told rfl rfl (Nat.le_of_ble_eq_true rfl) (by omega) (by omega) (Sp.mono h ?_)
  rintro rS14 shS14 S14 ⟨qS14, x15, uS14, h⟩
  subst uS14
  rw [qS14]
  refine q_icmp_eq (pc := 636) d_law_636 (tgt := 1619) (by decide) (fun c16 => ?_) (fun c16 => ?_)
  · replace h := h.1 c16
    exact h
  · replace h := h.2 c16
    refine q_iconst (pc := 639) d_law_639 (v := 0) (by decide) ?_
    exact h.elim
set_option maxRecDepth 4000 in
theorem s_law_641 {l : Launch} {b0 L : Nat} {xs : Nat → Int32} {ce sl : Nat} {sh : aw_SH} {S : aw_S} {a m : Nat} {i3 : Int32} (hce : ce ≤ 600000) (hsl : sl ≤ 7302250) (sa : sh[a]? = some (0, 0)) (sm : sh[m]? = some (0, 11)) (h : vp_in (i3 + (1 : Int32)) L ∧ vp_in (i3 + (2 : Int32)) L ∧ Sp l m_Mg_dancer 200 0 0 [.ref a, .int (xs (i3 + (1 : Int32) : Int32).toNatClampNeg), .int (xs (i3 + (2 : Int32) : Int32).toNatClampNeg)] sh S (gI sh (fun x43 S42 => Sp l m_Md_dancer 200 0 0 [.ref m, .int (xs (i3 + (1 : Int32) : Int32).toNatClampNeg), .int (xs (i3 + (2 : Int32) : Int32).toNatClampNeg)] sh S42 (gI sh (fun x47 S46 => ((x43 = x47 → AL l b0 L xs ce sl 1619 [.float 0, .ref a, .ref m, .int i3] [] sh S46) ∧ (¬ x43 = x47 → False))))))) : AL l b0 L xs ce sl 641 [.float 0, .ref a, .ref m, .int i3] [] sh S := by
  refine q_aload_n (pc := 641) d_law_641 (x := a) rfl ?_
  refine q_aload_nX (pc := 642) d_law_642 (x := 0) rfl ?_
  refine q_iload_n (pc := 643) d_law_643 (x := i3) rfl ?_
  refine q_iconst (pc := 644) d_law_644 (v := 1) (by decide) ?_
  refine q_iadd (pc := 645) d_law_645 ?_
  obtain ⟨g1, h⟩ := h
  refine q_sld (pc := 646) d_law_646 g1 ?_
  refine q_aload_nX (pc := 647) d_law_647 (x := 0) rfl ?_
  refine q_iload_n (pc := 648) d_law_648 (x := i3) rfl ?_
  refine q_iconst (pc := 649) d_law_649 (v := 2) (by decide) ?_
  refine q_iadd (pc := 650) d_law_650 ?_
  obtain ⟨g31, h⟩ := h
  refine q_sld (pc := 651) d_law_651 g31 ?_
  refine q_callV (pc := 652) (k := a) (As := [.int (xs (i3 + (1 : Int32) : Int32).toNatClampNeg), .int (xs (i3 + (2 : Int32) : Int32).toNatClampNeg)]) (rest := []) (mc' := 0) (ms' := 0) lk_Lw_71 in_Mg_dancer se_Mg_dancer sa rfl d_law_652 k_Mg_dancer rfl rfl (Nat.le_of_ble_eq_true rfl) (by omega) (by omega) (Sp.mono h ?_)
  rintro rS42 shS42 S42 ⟨qS42, x43, uS42, h⟩
  subst uS42
  rw [qS42]
  refine q_aload_n (pc := 655) d_law_655 (x := m) rfl ?_
  refine q_aload_nX (pc := 656) d_law_656 (x := 0) rfl ?_
  refine q_iload_n (pc := 657) d_law_657 (x := i3) rfl ?_
  refine q_iconst (pc := 658) d_law_658 (v := 1) (by decide) ?_
  refine q_iadd (pc := 659) d_law_659 ?_
  refine q_sld (pc := 660) d_law_660 g1 ?_
  refine q_aload_nX (pc := 661) d_law_661 (x := 0) rfl ?_
  refine q_iload_n (pc := 662) d_law_662 (x := i3) rfl ?_
  refine q_iconst (pc := 663) d_law_663 (v := 2) (by decide) ?_
  refine q_iadd (pc := 664) d_law_664 ?_
  refine q_sld (pc := 665) d_law_665 g31 ?_
  refine q_callV (pc := 666) (k := m) (As := [.int (xs (i3 + (1 : Int32) : Int32).toNatClampNeg), .int (xs (i3 + (2 : Int32) : Int32).toNatClampNeg)]) (rest := [.int x43]) (mc' := 0) (ms' := 0) lk_Lw_75 in_Md_dancer se_Md_dancer sm rfl d_law_666 k_Md_dancer rfl rfl (Nat.le_of_ble_eq_true rfl) (by omega) (by omega) (Sp.mono h ?_)
  rintro rS46 shS46 S46 ⟨qS46, x47, uS46, h⟩
  subst uS46
  rw [qS46]
  refine q_icmp_eq (pc := 669) d_law_669 (tgt := 1619) (by decide) (fun c48 => ?_) (fun c48 => ?_)
  · replace h := h.1 c48
    exact h
  · replace h := h.2 c48
    refine q_iconst (pc := 672) d_law_672 (v := 0) (by decide) ?_
    exact h.elim
set_option maxRecDepth 4000 in
theorem s_law_674 {l : Launch} {b0 L : Nat} {xs : Nat → Int32} {ce sl : Nat} {sh : aw_SH} {S : aw_S} {a m : Nat} {i3 : Int32} (hce : ce ≤ 600000) (hsl : sl ≤ 7302250) (sa : sh[a]? = some (0, 0)) (sm : sh[m]? = some (0, 11)) (h : vp_in (i3 + (1 : Int32)) L ∧ Sp l m_Mg_place 200 0 0 [.ref a, .int (xs (i3 + (1 : Int32) : Int32).toNatClampNeg)] sh S (gI sh (fun x12 S11 => Sp l m_Md_place 200 0 0 [.ref m, .int (xs (i3 + (1 : Int32) : Int32).toNatClampNeg)] sh S11 (gI sh (fun x15 S14 => ((x12 = x15 → AL l b0 L xs ce sl 1619 [.float 0, .ref a, .ref m, .int i3] [] sh S14) ∧ (¬ x12 = x15 → False))))))) : AL l b0 L xs ce sl 674 [.float 0, .ref a, .ref m, .int i3] [] sh S := by
  refine q_aload_n (pc := 674) d_law_674 (x := a) rfl ?_
  refine q_aload_nX (pc := 675) d_law_675 (x := 0) rfl ?_
  refine q_iload_n (pc := 676) d_law_676 (x := i3) rfl ?_
  refine q_iconst (pc := 677) d_law_677 (v := 1) (by decide) ?_
  refine q_iadd (pc := 678) d_law_678 ?_
  obtain ⟨g1, h⟩ := h
  refine q_sld (pc := 679) d_law_679 g1 ?_
  refine q_callV (pc := 680) (k := a) (As := [.int (xs (i3 + (1 : Int32) : Int32).toNatClampNeg)]) (rest := []) (mc' := 0) (ms' := 0) lk_Lw_76 in_Mg_place se_Mg_place sa rfl d_law_680 k_Mg_place rfl rfl (Nat.le_of_ble_eq_true rfl) (by omega) (by omega) (Sp.mono h ?_)
  rintro rS11 shS11 S11 ⟨qS11, x12, uS11, h⟩
  subst uS11
  rw [qS11]
  refine q_aload_n (pc := 683) d_law_683 (x := m) rfl ?_
  refine q_aload_nX (pc := 684) d_law_684 (x := 0) rfl ?_
  refine q_iload_n (pc := 685) d_law_685 (x := i3) rfl ?_
  refine q_iconst (pc := 686) d_law_686 (v := 1) (by decide) ?_
  refine q_iadd (pc := 687) d_law_687 ?_
  refine q_sld (pc := 688) d_law_688 g1 ?_
  refine q_callV (pc := 689) (k := m) (As := [.int (xs (i3 + (1 : Int32) : Int32).toNatClampNeg)]) (rest := [.int x12]) (mc' := 0) (ms' := 0) lk_Lw_79 in_Md_place se_Md_place sm rfl d_law_689 k_Md_place rfl rfl (Nat.le_of_ble_eq_true rfl) (by omega) (by omega) (Sp.mono h ?_)
  rintro rS14 shS14 S14 ⟨qS14, x15, uS14, h⟩
  subst uS14
  rw [qS14]
  refine q_icmp_eq (pc := 692) d_law_692 (tgt := 1619) (by decide) (fun c16 => ?_) (fun c16 => ?_)
  · replace h := h.1 c16
    exact h
  · replace h := h.2 c16
    refine q_iconst (pc := 695) d_law_695 (v := 0) (by decide) ?_
    exact h.elim
set_option maxRecDepth 4000 in
theorem s_law_697 {l : Launch} {b0 L : Nat} {xs : Nat → Int32} {ce sl : Nat} {sh : aw_SH} {S : aw_S} {a m : Nat} {i3 : Int32} (hce : ce ≤ 600000) (hsl : sl ≤ 7302250) (sa : sh[a]? = some (0, 0)) (sm : sh[m]? = some (0, 11)) (h : vp_in (i3 + (1 : Int32)) L ∧ vp_in (i3 + (2 : Int32)) L ∧ Sp l m_Mg_plait 200 0 0 [.ref a, .int (xs (i3 + (1 : Int32) : Int32).toNatClampNeg), .int (xs (i3 + (2 : Int32) : Int32).toNatClampNeg)] sh S (gI sh (fun x43 S42 => Sp l m_Md_plait 200 0 0 [.ref m, .int (xs (i3 + (1 : Int32) : Int32).toNatClampNeg), .int (xs (i3 + (2 : Int32) : Int32).toNatClampNeg)] sh S42 (gI sh (fun x47 S46 => ((x43 = x47 → AL l b0 L xs ce sl 1619 [.float 0, .ref a, .ref m, .int i3] [] sh S46) ∧ (¬ x43 = x47 → False))))))) : AL l b0 L xs ce sl 697 [.float 0, .ref a, .ref m, .int i3] [] sh S := by
  refine q_aload_n (pc := 697) d_law_697 (x := a) rfl ?_
  refine q_aload_nX (pc := 698) d_law_698 (x := 0) rfl ?_
  refine q_iload_n (pc := 699) d_law_699 (x := i3) rfl ?_
  refine q_iconst (pc := 700) d_law_700 (v := 1) (by decide) ?_
  refine q_iadd (pc := 701) d_law_701 ?_
  obtain ⟨g1, h⟩ := h
  refine q_sld (pc := 702) d_law_702 g1 ?_
  refine q_aload_nX (pc := 703) d_law_703 (x := 0) rfl ?_
  refine q_iload_n (pc := 704) d_law_704 (x := i3) rfl ?_
  refine q_iconst (pc := 705) d_law_705 (v := 2) (by decide) ?_
  refine q_iadd (pc := 706) d_law_706 ?_
  obtain ⟨g31, h⟩ := h
  refine q_sld (pc := 707) d_law_707 g31 ?_
  refine q_callV (pc := 708) (k := a) (As := [.int (xs (i3 + (1 : Int32) : Int32).toNatClampNeg), .int (xs (i3 + (2 : Int32) : Int32).toNatClampNeg)]) (rest := []) (mc' := 0) (ms' := 0) lk_Lw_80 in_Mg_plait se_Mg_plait sa rfl d_law_708 k_Mg_plait rfl rfl (Nat.le_of_ble_eq_true rfl) (by omega) (by omega) (Sp.mono h ?_)
  rintro rS42 shS42 S42 ⟨qS42, x43, uS42, h⟩
  subst uS42
  rw [qS42]
  refine q_aload_n (pc := 711) d_law_711 (x := m) rfl ?_
  refine q_aload_nX (pc := 712) d_law_712 (x := 0) rfl ?_
  refine q_iload_n (pc := 713) d_law_713 (x := i3) rfl ?_
  refine q_iconst (pc := 714) d_law_714 (v := 1) (by decide) ?_
  refine q_iadd (pc := 715) d_law_715 ?_
  refine q_sld (pc := 716) d_law_716 g1 ?_
  refine q_aload_nX (pc := 717) d_law_717 (x := 0) rfl ?_
  refine q_iload_n (pc := 718) d_law_718 (x := i3) rfl ?_
  refine q_iconst (pc := 719) d_law_719 (v := 2) (by decide) ?_
  refine q_iadd (pc := 720) d_law_720 ?_
  refine q_sld (pc := 721) d_law_721 g31 ?_
  refine q_callV (pc := 722) (k := m) (As := [.int (xs (i3 + (1 : Int32) : Int32).toNatClampNeg), .int (xs (i3 + (2 : Int32) : Int32).toNatClampNeg)]) (rest := [.int x43]) (mc' := 0) (ms' := 0) lk_Lw_83 in_Md_plait se_Md_plait sm rfl d_law_722 k_Md_plait rfl rfl (Nat.le_of_ble_eq_true rfl) (by omega) (by omega) (Sp.mono h ?_)
  rintro rS46 shS46 S46 ⟨qS46, x47, uS46, h⟩
  subst uS46
  rw [qS46]
  refine q_icmp_eq (pc := 725) d_law_725 (tgt := 1619) (by decide) (fun c48 => ?_) (fun c48 => ?_)
  · replace h := h.1 c48
    exact h
  · replace h := h.2 c48
    refine q_iconst (pc := 728) d_law_728 (v := 0) (by decide) ?_
    exact h.elim
set_option maxRecDepth 4000 in
theorem s_law_730 {l : Launch} {b0 L : Nat} {xs : Nat → Int32} {ce sl : Nat} {sh : aw_SH} {S : aw_S} {a m : Nat} {i3 : Int32} (hce : ce ≤ 600000) (hsl : sl ≤ 7302250) (sa : sh[a]? = some (0, 0)) (sm : sh[m]? = some (0, 11)) (h : vp_in (i3 + (1 : Int32)) L ∧ Sp l m_Mg_shows 200 0 0 [.ref a, .int (xs (i3 + (1 : Int32) : Int32).toNatClampNeg)] sh S (gI sh (fun x12 S11 => Sp l m_Md_shows 200 0 0 [.ref m, .int (xs (i3 + (1 : Int32) : Int32).toNatClampNeg)] sh S11 (gI sh (fun x15 S14 => ((x12 = x15 → AL l b0 L xs ce sl 1619 [.float 0, .ref a, .ref m, .int i3] [] sh S14) ∧ (¬ x12 = x15 → False))))))) : AL l b0 L xs ce sl 730 [.float 0, .ref a, .ref m, .int i3] [] sh S := by
  refine q_aload_n (pc := 730) d_law_730 (x := a) rfl ?_
  refine q_aload_nX (pc := 731) d_law_731 (x := 0) rfl ?_
  refine q_iload_n (pc := 732) d_law_732 (x := i3) rfl ?_
  refine q_iconst (pc := 733) d_law_733 (v := 1) (by decide) ?_
  refine q_iadd (pc := 734) d_law_734 ?_
  obtain ⟨g1, h⟩ := h
  refine q_sld (pc := 735) d_law_735 g1 ?_
  refine q_callV (pc := 736) (k := a) (As := [.int (xs (i3 + (1 : Int32) : Int32).toNatClampNeg)]) (rest := []) (mc' := 0) (ms' := 0) lk_Lw_84 in_Mg_shows se_Mg_shows sa rfl d_law_736 k_Mg_shows rfl rfl (Nat.le_of_ble_eq_true rfl) (by omega) (by omega) (Sp.mono h ?_)
  rintro rS11 shS11 S11 ⟨qS11, x12, uS11, h⟩
  subst uS11
  rw [qS11]
  refine q_aload_n (pc := 739) d_law_739 (x := m) rfl ?_
  refine q_aload_nX (pc := 740) d_law_740 (x := 0) rfl ?_
  refine q_iload_n (pc := 741) d_law_741 (x := i3) rfl ?_
  refine q_iconst (pc := 742) d_law_742 (v := 1) (by decide) ?_
  refine q_iadd (pc := 743) d_law_743 ?_
  refine q_sld (pc := 744) d_law_744 g1 ?_
  refine q_callV (pc := 745) (k := m) (As := [.int (xs (i3 + (1 : Int32) : Int32).toNatClampNeg)]) (rest := [.int x12]) (mc' := 0) (ms' := 0) lk_Lw_87 in_Md_shows se_Md_shows sm rfl d_law_745 k_Md_shows rfl rfl (Nat.le_of_ble_eq_true rfl) (by omega) (by omega) (Sp.mono h ?_)
  rintro rS14 shS14 S14 ⟨qS14, x15, uS14, h⟩
  subst uS14
  rw [qS14]
  refine q_icmp_eq (pc := 748) d_law_748 (tgt := 1619) (by decide) (fun c16 => ?_) (fun c16 => ?_)
  · replace h := h.1 c16
    exact h
  · replace h := h.2 c16
    refine q_iconst (pc := 751) d_law_751 (v := 0) (by decide) ?_
    exact h.elim
set_option maxRecDepth 4000 in
theorem s_law_753 {l : Launch} {b0 L : Nat} {xs : Nat → Int32} {ce sl : Nat} {sh : aw_SH} {S : aw_S} {a m : Nat} {i3 : Int32} (hce : ce ≤ 600000) (hsl : sl ≤ 7302250) (sa : sh[a]? = some (0, 0)) (sm : sh[m]? = some (0, 11)) (h : vp_in (i3 + (1 : Int32)) L ∧ Sp l m_Mg_passes 200 0 0 [.ref a, .int (xs (i3 + (1 : Int32) : Int32).toNatClampNeg)] sh S (gI sh (fun x12 S11 => Sp l m_Md_passes 200 0 0 [.ref m, .int (xs (i3 + (1 : Int32) : Int32).toNatClampNeg)] sh S11 (gI sh (fun x15 S14 => ((x12 = x15 → AL l b0 L xs ce sl 1619 [.float 0, .ref a, .ref m, .int i3] [] sh S14) ∧ (¬ x12 = x15 → False))))))) : AL l b0 L xs ce sl 753 [.float 0, .ref a, .ref m, .int i3] [] sh S := by
  refine q_aload_n (pc := 753) d_law_753 (x := a) rfl ?_
  refine q_aload_nX (pc := 754) d_law_754 (x := 0) rfl ?_
  refine q_iload_n (pc := 755) d_law_755 (x := i3) rfl ?_
  refine q_iconst (pc := 756) d_law_756 (v := 1) (by decide) ?_
  refine q_iadd (pc := 757) d_law_757 ?_
  obtain ⟨g1, h⟩ := h
  refine q_sld (pc := 758) d_law_758 g1 ?_
  refine q_callV (pc := 759) (k := a) (As := [.int (xs (i3 + (1 : Int32) : Int32).toNatClampNeg)]) (rest := []) (mc' := 0) (ms' := 0) lk_Lw_88 in_Mg_passes se_Mg_passes sa rfl d_law_759 k_Mg_passes rfl rfl (Nat.le_of_ble_eq_true rfl) (by omega) (by omega) (Sp.mono h ?_)
  rintro rS11 shS11 S11 ⟨qS11, x12, uS11, h⟩
  subst uS11
  rw [qS11]
  refine q_aload_n (pc := 762) d_law_762 (x := m) rfl ?_
  refine q_aload_nX (pc := 763) d_law_763 (x := 0) rfl ?_
  refine q_iload_n (pc := 764) d_law_764 (x := i3) rfl ?_
  refine q_iconst (pc := 765) d_law_765 (v := 1) (by decide) ?_
  refine q_iadd (pc := 766) d_law_766 ?_
  refine q_sld (pc := 767) d_law_767 g1 ?_
  refine q_callV (pc := 768) (k := m) (As := [.int (xs (i3 + (1 : Int32) : Int32).toNatClampNeg)]) (rest := [.int x12]) (mc' := 0) (ms' := 0) lk_Lw_91 in_Md_passes se_Md_passes sm rfl d_law_768 k_Md_passes rfl rfl (Nat.le_of_ble_eq_true rfl) (by omega) (by omega) (Sp.mono h ?_)
  rintro rS14 shS14 S14 ⟨qS14, x15, uS14, h⟩
  subst uS14
  rw [qS14]
  refine q_icmp_eq (pc := 771) d_law_771 (tgt := 1619) (by decide) (fun c16 => ?_) (fun c16 => ?_)
  · replace h := h.1 c16
    exact h
  · replace h := h.2 c16
    refine q_iconst (pc := 774) d_law_774 (v := 0) (by decide) ?_
    exact h.elim
set_option maxRecDepth 4000 in
theorem s_law_776 {l : Launch} {b0 L : Nat} {xs : Nat → Int32} {ce sl : Nat} {sh : aw_SH} {S : aw_S} {a m : Nat} {i3 : Int32} (hce : ce ≤ 600000) (hsl : sl ≤ 7302250) (sa : sh[a]? = some (0, 0)) (sm : sh[m]? = some (0, 11)) (h : vp_in (i3 + (1 : Int32)) L ∧ vp_in (i3 + (2 : Int32)) L ∧ (((xs (i3 + (2 : Int32) : Int32).toNatClampNeg) = 0 → Sp l m_Mg_pass 200 0 0 [.ref a, .int (xs (i3 + (1 : Int32) : Int32).toNatClampNeg), .int 0] sh S (gI sh (fun x149 S148 => (((xs (i3 + (2 : Int32) : Int32).toNatClampNeg) = 0 → Sp l m_Md_pass 200 0 0 [.ref m, .int (xs (i3 + (1 : Int32) : Int32).toNatClampNeg), .int 0] sh S148 (gI sh (fun x154 S153 => ((x149 = x154 → AL l b0 L xs ce sl 1619 [.float 0, .ref a, .ref m, .int i3] [] sh S153) ∧ (¬ x149 = x154 → False))))) ∧ (¬ (xs (i3 + (2 : Int32) : Int32).toNatClampNeg) = 0 → Sp l m_Md_pass 200 0 0 [.ref m, .int (xs (i3 + (1 : Int32) : Int32).toNatClampNeg), .int 1] sh S148 (gI sh (fun x157 S156 => ((x149 = x157 → AL l b0 L xs ce sl 1619 [.float 0, .ref a, .ref m, .int i3] [] sh S156) ∧ (¬ x149 = x157 → False))))))))) ∧ (¬ (xs (i3 + (2 : Int32) : Int32).toNatClampNeg) = 0 → Sp l m_Mg_pass 200 0 0 [.ref a, .int (xs (i3 + (1 : Int32) : Int32).toNatClampNeg), .int 1] sh S (gI sh (fun x160 S159 => (((xs (i3 + (2 : Int32) : Int32).toNatClampNeg) = 0 → Sp l m_Md_pass 200 0 0 [.ref m, .int (xs (i3 + (1 : Int32) : Int32).toNatClampNeg), .int 0] sh S159 (gI sh (fun x165 S164 => ((x160 = x165 → AL l b0 L xs ce sl 1619 [.float 0, .ref a, .ref m, .int i3] [] sh S164) ∧ (¬ x160 = x165 → False))))) ∧ (¬ (xs (i3 + (2 : Int32) : Int32).toNatClampNeg) = 0 → Sp l m_Md_pass 200 0 0 [.ref m, .int (xs (i3 + (1 : Int32) : Int32).toNatClampNeg), .int 1] sh S159 (gI sh (fun x168 S167 => ((x160 = x168 → AL l b0 L xs ce sl 1619 [.float 0, .ref a, .ref m, .int i3] [] sh S167) ∧ (¬ x160 = x168 → False))))))))))) : AL l b0 L xs ce sl 776 [.float 0, .ref a, .ref m, .int i3] [] sh S := by
  refine q_aload_n (pc := 776) d_law_776 (x := a) rfl ?_
  refine q_aload_nX (pc := 777) d_law_777 (x := 0) rfl ?_
  refine q_iload_n (pc := 778) d_law_778 (x := i3) rfl ?_
  refine q_iconst (pc := 779) d_law_779 (v := 1) (by decide) ?_
  refine q_iadd (pc := 780) d_law_780 ?_
  obtain ⟨g1, h⟩ := h
  refine q_sld (pc := 781) d_law_781 g1 ?_
  refine q_aload_nX (pc := 782) d_law_782 (x := 0) rfl ?_
  refine q_iload_n (pc := 783) d_law_783 (x := i3) rfl ?_
  refine q_iconst (pc := 784) d_law_784 (v := 2) (by decide) ?_
  refine q_iadd (pc := 785) d_law_785 ?_
  obtain ⟨g109, h⟩ := h
  refine q_sld (pc := 786) d_law_786 g109 ?_
  refine q_if_eq (pc := 787) d_law_787 (tgt := 794) (by decide) (fun c147 => ?_) (fun c147 => ?_)
  · replace h := h.1 c147
    refine q_iconst (pc := 794) d_law_794 (v := 0) (by decide) ?_
    refine q_callV (pc := 795) (k := a) (As := [.int (xs (i3 + (1 : Int32) : Int32).toNatClampNeg), .int 0]) (rest := []) (mc' := 0) (ms' := 0) lk_Lw_92 in_Mg_pass se_Mg_pass sa rfl d_law_795 k_Mg_pass rfl rfl (Nat.le_of_ble_eq_true rfl) (by omega) (by omega) (Sp.mono h ?_)
    rintro rS148 shS148 S148 ⟨qS148, x149, uS148, h⟩
    subst uS148
    rw [qS148]
    refine q_aload_n (pc := 798) d_law_798 (x := m) rfl ?_
    refine q_aload_nX (pc := 799) d_law_799 (x := 0) rfl ?_
    refine q_iload_n (pc := 800) d_law_800 (x := i3) rfl ?_
    refine q_iconst (pc := 801) d_law_801 (v := 1) (by decide) ?_
    refine q_iadd (pc := 802) d_law_802 ?_
    refine q_sld (pc := 803) d_law_803 g1 ?_
    refine q_aload_nX (pc := 804) d_law_804 (x := 0) rfl ?_
    refine q_iload_n (pc := 805) d_law_805 (x := i3) rfl ?_
    refine q_iconst (pc := 806) d_law_806 (v := 2) (by decide) ?_
    refine q_iadd (pc := 807) d_law_807 ?_
    refine q_sld (pc := 808) d_law_808 g109 ?_
    refine q_if_eq (pc := 809) d_law_809 (tgt := 816) (by decide) (fun c152 => ?_) (fun c152 => ?_)
    · replace h := h.1 c152
      refine q_iconst (pc := 816) d_law_816 (v := 0) (by decide) ?_
      refine q_callV (pc := 817) (k := m) (As := [.int (xs (i3 + (1 : Int32) : Int32).toNatClampNeg), .int 0]) (rest := [.int x149]) (mc' := 0) (ms' := 0) lk_Lw_96 in_Md_pass se_Md_pass sm rfl d_law_817 k_Md_pass rfl rfl (Nat.le_of_ble_eq_true rfl) (by omega) (by omega) (Sp.mono h ?_)
      rintro rS153 shS153 S153 ⟨qS153, x154, uS153, h⟩
      subst uS153
      rw [qS153]
      refine q_icmp_eq (pc := 820) d_law_820 (tgt := 1619) (by decide) (fun c155 => ?_) (fun c155 => ?_)
      · replace h := h.1 c155
        exact h
      · replace h := h.2 c155
        refine q_iconst (pc := 823) d_law_823 (v := 0) (by decide) ?_
        exact h.elim
    · replace h := h.2 c152
      refine q_iconst (pc := 812) d_law_812 (v := 1) (by decide) ?_
      refine q_goto (pc := 813) d_law_813 (tgt := 817) (by decide) ?_
      refine q_callV (pc := 817) (k := m) (As := [.int (xs (i3 + (1 : Int32) : Int32).toNatClampNeg), .int 1]) (rest := [.int x149]) (mc' := 0) (ms' := 0) lk_Lw_96 in_Md_pass se_Md_pass sm rfl d_law_817 k_Md_pass rfl rfl (Nat.le_of_ble_eq_true rfl) (by omega) (by omega) (Sp.mono h ?_)
      rintro rS156 shS156 S156 ⟨qS156, x157, uS156, h⟩
      subst uS156
      rw [qS156]
      refine q_icmp_eq (pc := 820) d_law_820 (tgt := 1619) (by decide) (fun c158 => ?_) (fun c158 => ?_)
      · replace h := h.1 c158
        exact h
      · replace h := h.2 c158
        refine q_iconst (pc := 823) d_law_823 (v := 0) (by decide) ?_
        exact h.elim
  · replace h := h.2 c147
    refine q_iconst (pc := 790) d_law_790 (v := 1) (by decide) ?_
    refine q_goto (pc := 791) d_law_791 (tgt := 795) (by decide) ?_
    refine q_callV (pc := 795) (k := a) (As := [.int (xs (i3 + (1 : Int32) : Int32).toNatClampNeg), .int 1]) (rest := []) (mc' := 0) (ms' := 0) lk_Lw_92 in_Mg_pass se_Mg_pass sa rfl d_law_795 k_Mg_pass rfl rfl (Nat.le_of_ble_eq_true rfl) (by omega) (by omega) (Sp.mono h ?_)
    rintro rS159 shS159 S159 ⟨qS159, x160, uS159, h⟩
    subst uS159
    rw [qS159]
    refine q_aload_n (pc := 798) d_law_798 (x := m) rfl ?_
    refine q_aload_nX (pc := 799) d_law_799 (x := 0) rfl ?_
    refine q_iload_n (pc := 800) d_law_800 (x := i3) rfl ?_
    refine q_iconst (pc := 801) d_law_801 (v := 1) (by decide) ?_
    refine q_iadd (pc := 802) d_law_802 ?_
    refine q_sld (pc := 803) d_law_803 g1 ?_
    refine q_aload_nX (pc := 804) d_law_804 (x := 0) rfl ?_
    refine q_iload_n (pc := 805) d_law_805 (x := i3) rfl ?_
    refine q_iconst (pc := 806) d_law_806 (v := 2) (by decide) ?_
    refine q_iadd (pc := 807) d_law_807 ?_
    refine q_sld (pc := 808) d_law_808 g109 ?_
    refine q_if_eq (pc := 809) d_law_809 (tgt := 816) (by decide) (fun c163 => ?_) (fun c163 => ?_)
    · replace h := h.1 c163
      refine q_iconst (pc := 816) d_law_816 (v := 0) (by decide) ?_
      refine q_callV (pc := 817) (k := m) (As := [.int (xs (i3 + (1 : Int32) : Int32).toNatClampNeg), .int 0]) (rest := [.int x160]) (mc' := 0) (ms' := 0) lk_Lw_96 in_Md_pass se_Md_pass sm rfl d_law_817 k_Md_pass rfl rfl (Nat.le_of_ble_eq_true rfl) (by omega) (by omega) (Sp.mono h ?_)
      rintro rS164 shS164 S164 ⟨qS164, x165, uS164, h⟩
      subst uS164
      rw [qS164]
      refine q_icmp_eq (pc := 820) d_law_820 (tgt := 1619) (by decide) (fun c166 => ?_) (fun c166 => ?_)
      · replace h := h.1 c166
        exact h
      · replace h := h.2 c166
        refine q_iconst (pc := 823) d_law_823 (v := 0) (by decide) ?_
        exact h.elim
    · replace h := h.2 c163
      refine q_iconst (pc := 812) d_law_812 (v := 1) (by decide) ?_
      refine q_goto (pc := 813) d_law_813 (tgt := 817) (by decide) ?_
      refine q_callV (pc := 817) (k := m) (As := [.int (xs (i3 + (1 : Int32) : Int32).toNatClampNeg), .int 1]) (rest := [.int x160]) (mc' := 0) (ms' := 0) lk_Lw_96 in_Md_pass se_Md_pass sm rfl d_law_817 k_Md_pass rfl rfl (Nat.le_of_ble_eq_true rfl) (by omega) (by omega) (Sp.mono h ?_)
      rintro rS167 shS167 S167 ⟨qS167, x168, uS167, h⟩
      subst uS167
      rw [qS167]
      refine q_icmp_eq (pc := 820) d_law_820 (tgt := 1619) (by decide) (fun c169 => ?_) (fun c169 => ?_)
      · replace h := h.1 c169
        exact h
      · replace h := h.2 c169
        refine q_iconst (pc := 823) d_law_823 (v := 0) (by decide) ?_
        exact h.elim
set_option maxRecDepth 4000 in
theorem s_law_825 {l : Launch} {b0 L : Nat} {xs : Nat → Int32} {ce sl : Nat} {sh : aw_SH} {S : aw_S} {a m : Nat} {i3 : Int32} (hce : ce ≤ 600000) (hsl : sl ≤ 7302250) (sa : sh[a]? = some (0, 0)) (sm : sh[m]? = some (0, 11)) (h : Sp l m_Mg_back 200 0 0 [.ref a] sh S (gI sh (fun x2 S1 => Sp l m_Md_back 200 0 0 [.ref m] sh S1 (gI sh (fun x4 S3 => ((x2 = x4 → AL l b0 L xs ce sl 1619 [.float 0, .ref a, .ref m, .int i3] [] sh S3) ∧ (¬ x2 = x4 → False))))))) : AL l b0 L xs ce sl 825 [.float 0, .ref a, .ref m, .int i3] [] sh S := by
  refine q_aload_n (pc := 825) d_law_825 (x := a) rfl ?_
  refine q_callV (pc := 826) (k := a) (As := []) (rest := []) (mc' := 0) (ms' := 0) lk_Lw_97 in_Mg_back se_Mg_back sa rfl d_law_826 k_Mg_back rfl rfl (Nat.le_of_ble_eq_true rfl) (by omega) (by omega) (Sp.mono h ?_)
  rintro rS1 shS1 S1 ⟨qS1, x2, uS1, h⟩
  subst uS1
  rw [qS1]
  refine q_aload_n (pc := 829) d_law_829 (x := m) rfl ?_
  refine q_callV (pc := 830) (k := m) (As := []) (rest := [.int x2]) (mc' := 0) (ms' := 0) lk_Lw_100 in_Md_back se_Md_back sm rfl d_law_830 k_Md_back rfl rfl (Nat.le_of_ble_eq_true rfl) (by omega) (by omega) (Sp.mono h ?_)
  rintro rS3 shS3 S3 ⟨qS3, x4, uS3, h⟩
  subst uS3
  rw [qS3]
  refine q_icmp_eq (pc := 833) d_law_833 (tgt := 1619) (by decide) (fun c5 => ?_) (fun c5 => ?_)
  · replace h := h.1 c5
    exact h
  · replace h := h.2 c5
    refine q_iconst (pc := 836) d_law_836 (v := 0) (by decide) ?_
    exact h.elim
set_option maxRecDepth 4000 in
theorem s_law_838 {l : Launch} {b0 L : Nat} {xs : Nat → Int32} {ce sl : Nat} {sh : aw_SH} {S : aw_S} {a m : Nat} {i3 : Int32} (hce : ce ≤ 600000) (hsl : sl ≤ 7302250) (sa : sh[a]? = some (0, 0)) (sm : sh[m]? = some (0, 11)) (h : Sp l m_Mg_weave 200 0 0 [.ref a] sh S (gI sh (fun x2 S1 => Sp l m_Md_weave 200 0 0 [.ref m] sh S1 (gI sh (fun x4 S3 => ((x2 = x4 → AL l b0 L xs ce sl 1619 [.float 0, .ref a, .ref m, .int i3] [] sh S3) ∧ (¬ x2 = x4 → False))))))) : AL l b0 L xs ce sl 838 [.float 0, .ref a, .ref m, .int i3] [] sh S := by
  refine q_aload_n (pc := 838) d_law_838 (x := a) rfl ?_
  refine q_callV (pc := 839) (k := a) (As := []) (rest := []) (mc' := 0) (ms' := 0) lk_Lw_101 in_Mg_weave se_Mg_weave sa rfl d_law_839 k_Mg_weave rfl rfl (Nat.le_of_ble_eq_true rfl) (by omega) (by omega) (Sp.mono h ?_)
  rintro rS1 shS1 S1 ⟨qS1, x2, uS1, h⟩
  subst uS1
  rw [qS1]
  refine q_aload_n (pc := 842) d_law_842 (x := m) rfl ?_
  refine q_callV (pc := 843) (k := m) (As := []) (rest := [.int x2]) (mc' := 0) (ms' := 0) lk_Lw_104 in_Md_weave se_Md_weave sm rfl d_law_843 k_Md_weave rfl rfl (Nat.le_of_ble_eq_true rfl) (by omega) (by omega) (Sp.mono h ?_)
  rintro rS3 shS3 S3 ⟨qS3, x4, uS3, h⟩
  subst uS3
  rw [qS3]
  refine q_icmp_eq (pc := 846) d_law_846 (tgt := 1619) (by decide) (fun c5 => ?_) (fun c5 => ?_)
  · replace h := h.1 c5
    exact h
  · replace h := h.2 c5
    refine q_iconst (pc := 849) d_law_849 (v := 0) (by decide) ?_
    exact h.elim
set_option maxRecDepth 4000 in
theorem s_law_851 {l : Launch} {b0 L : Nat} {xs : Nat → Int32} {ce sl : Nat} {sh : aw_SH} {S : aw_S} {a m : Nat} {i3 : Int32} (hce : ce ≤ 600000) (hsl : sl ≤ 7302250) (sa : sh[a]? = some (0, 0)) (sm : sh[m]? = some (0, 11)) (h : vp_in (i3 + (1 : Int32)) L ∧ vp_in (i3 + (2 : Int32)) L ∧ Sp l m_Mg_paint 200 0 0 [.ref a, .int (xs (i3 + (1 : Int32) : Int32).toNatClampNeg), .int (xs (i3 + (2 : Int32) : Int32).toNatClampNeg)] sh S (gI sh (fun x43 S42 => Sp l m_Md_paint 200 0 0 [.ref m, .int (xs (i3 + (1 : Int32) : Int32).toNatClampNeg), .int (xs (i3 + (2 : Int32) : Int32).toNatClampNeg)] sh S42 (gI sh (fun x47 S46 => ((x43 = x47 → AL l b0 L xs ce sl 1619 [.float 0, .ref a, .ref m, .int i3] [] sh S46) ∧ (¬ x43 = x47 → False))))))) : AL l b0 L xs ce sl 851 [.float 0, .ref a, .ref m, .int i3] [] sh S := by
  refine q_aload_n (pc := 851) d_law_851 (x := a) rfl ?_
  refine q_aload_nX (pc := 852) d_law_852 (x := 0) rfl ?_
  refine q_iload_n (pc := 853) d_law_853 (x := i3) rfl ?_
  refine q_iconst (pc := 854) d_law_854 (v := 1) (by decide) ?_
  refine q_iadd (pc := 855) d_law_855 ?_
  obtain ⟨g1, h⟩ := h
  refine q_sld (pc := 856) d_law_856 g1 ?_
  refine q_aload_nX (pc := 857) d_law_857 (x := 0) rfl ?_
  refine q_iload_n (pc := 858) d_law_858 (x := i3) rfl ?_
  refine q_iconst (pc := 859) d_law_859 (v := 2) (by decide) ?_
  refine q_iadd (pc := 860) d_law_860 ?_
  obtain ⟨g31, h⟩ := h
  refine q_sld (pc := 861) d_law_861 g31 ?_
  refine q_callV (pc := 862) (k := a) (As := [.int (xs (i3 + (1 : Int32) : Int32).toNatClampNeg), .int (xs (i3 + (2 : Int32) : Int32).toNatClampNeg)]) (rest := []) (mc' := 0) (ms' := 0) lk_Lw_105 in_Mg_paint se_Mg_paint sa rfl d_law_862 k_Mg_paint rfl rfl (Nat.le_of_ble_eq_true rfl) (by omega) (by omega) (Sp.mono h ?_)
  rintro rS42 shS42 S42 ⟨qS42, x43, uS42, h⟩
  subst uS42
  rw [qS42]
  refine q_aload_n (pc := 865) d_law_865 (x := m) rfl ?_
  refine q_aload_nX (pc := 866) d_law_866 (x := 0) rfl ?_
  refine q_iload_n (pc := 867) d_law_867 (x := i3) rfl ?_
  refine q_iconst (pc := 868) d_law_868 (v := 1) (by decide) ?_
  refine q_iadd (pc := 869) d_law_869 ?_
  refine q_sld (pc := 870) d_law_870 g1 ?_
  refine q_aload_nX (pc := 871) d_law_871 (x := 0) rfl ?_
  refine q_iload_n (pc := 872) d_law_872 (x := i3) rfl ?_
  refine q_iconst (pc := 873) d_law_873 (v := 2) (by decide) ?_
  refine q_iadd (pc := 874) d_law_874 ?_
  refine q_sld (pc := 875) d_law_875 g31 ?_
  refine q_callV (pc := 876) (k := m) (As := [.int (xs (i3 + (1 : Int32) : Int32).toNatClampNeg), .int (xs (i3 + (2 : Int32) : Int32).toNatClampNeg)]) (rest := [.int x43]) (mc' := 0) (ms' := 0) lk_Lw_108 in_Md_paint se_Md_paint sm rfl d_law_876 k_Md_paint rfl rfl (Nat.le_of_ble_eq_true rfl) (by omega) (by omega) (Sp.mono h ?_)
  rintro rS46 shS46 S46 ⟨qS46, x47, uS46, h⟩
  subst uS46
  rw [qS46]
  refine q_icmp_eq (pc := 879) d_law_879 (tgt := 1619) (by decide) (fun c48 => ?_) (fun c48 => ?_)
  · replace h := h.1 c48
    exact h
  · replace h := h.2 c48
    refine q_iconst (pc := 882) d_law_882 (v := 0) (by decide) ?_
    exact h.elim
set_option maxRecDepth 4000 in
theorem s_law_884 {l : Launch} {b0 L : Nat} {xs : Nat → Int32} {ce sl : Nat} {sh : aw_SH} {S : aw_S} {a m : Nat} {i3 : Int32} (hce : ce ≤ 600000) (hsl : sl ≤ 7302250) (sa : sh[a]? = some (0, 0)) (sm : sh[m]? = some (0, 11)) (h : vp_in (i3 + (1 : Int32)) L ∧ vp_in (i3 + (2 : Int32)) L ∧ Sp l m_Mg_trade 200 0 0 [.ref a, .int (xs (i3 + (1 : Int32) : Int32).toNatClampNeg), .int (xs (i3 + (2 : Int32) : Int32).toNatClampNeg)] sh S (gI sh (fun x43 S42 => Sp l m_Md_trade 200 0 0 [.ref m, .int (xs (i3 + (1 : Int32) : Int32).toNatClampNeg), .int (xs (i3 + (2 : Int32) : Int32).toNatClampNeg)] sh S42 (gI sh (fun x47 S46 => ((x43 = x47 → AL l b0 L xs ce sl 1619 [.float 0, .ref a, .ref m, .int i3] [] sh S46) ∧ (¬ x43 = x47 → False))))))) : AL l b0 L xs ce sl 884 [.float 0, .ref a, .ref m, .int i3] [] sh S := by
  refine q_aload_n (pc := 884) d_law_884 (x := a) rfl ?_
  refine q_aload_nX (pc := 885) d_law_885 (x := 0) rfl ?_
  refine q_iload_n (pc := 886) d_law_886 (x := i3) rfl ?_
  refine q_iconst (pc := 887) d_law_887 (v := 1) (by decide) ?_
  refine q_iadd (pc := 888) d_law_888 ?_
  obtain ⟨g1, h⟩ := h
  refine q_sld (pc := 889) d_law_889 g1 ?_
  refine q_aload_nX (pc := 890) d_law_890 (x := 0) rfl ?_
  refine q_iload_n (pc := 891) d_law_891 (x := i3) rfl ?_
  refine q_iconst (pc := 892) d_law_892 (v := 2) (by decide) ?_
  refine q_iadd (pc := 893) d_law_893 ?_
  obtain ⟨g31, h⟩ := h
  refine q_sld (pc := 894) d_law_894 g31 ?_
  refine q_callV (pc := 895) (k := a) (As := [.int (xs (i3 + (1 : Int32) : Int32).toNatClampNeg), .int (xs (i3 + (2 : Int32) : Int32).toNatClampNeg)]) (rest := []) (mc' := 0) (ms' := 0) lk_Lw_109 in_Mg_trade se_Mg_trade sa rfl d_law_895 k_Mg_trade rfl rfl (Nat.le_of_ble_eq_true rfl) (by omega) (by omega) (Sp.mono h ?_)
  rintro rS42 shS42 S42 ⟨qS42, x43, uS42, h⟩
  subst uS42
  rw [qS42]
  refine q_aload_n (pc := 898) d_law_898 (x := m) rfl ?_
  refine q_aload_nX (pc := 899) d_law_899 (x := 0) rfl ?_
  refine q_iload_n (pc := 900) d_law_900 (x := i3) rfl ?_
  refine q_iconst (pc := 901) d_law_901 (v := 1) (by decide) ?_
  refine q_iadd (pc := 902) d_law_902 ?_
  refine q_sld (pc := 903) d_law_903 g1 ?_
  refine q_aload_nX (pc := 904) d_law_904 (x := 0) rfl ?_
  refine q_iload_n (pc := 905) d_law_905 (x := i3) rfl ?_
  refine q_iconst (pc := 906) d_law_906 (v := 2) (by decide) ?_
  refine q_iadd (pc := 907) d_law_907 ?_
  refine q_sld (pc := 908) d_law_908 g31 ?_
  refine q_callV (pc := 909) (k := m) (As := [.int (xs (i3 + (1 : Int32) : Int32).toNatClampNeg), .int (xs (i3 + (2 : Int32) : Int32).toNatClampNeg)]) (rest := [.int x43]) (mc' := 0) (ms' := 0) lk_Lw_113 in_Md_trade se_Md_trade sm rfl d_law_909 k_Md_trade rfl rfl (Nat.le_of_ble_eq_true rfl) (by omega) (by omega) (Sp.mono h ?_)
  rintro rS46 shS46 S46 ⟨qS46, x47, uS46, h⟩
  subst uS46
  rw [qS46]
  refine q_icmp_eq (pc := 912) d_law_912 (tgt := 1619) (by decide) (fun c48 => ?_) (fun c48 => ?_)
  · replace h := h.1 c48
    exact h
  · replace h := h.2 c48
    refine q_iconst (pc := 915) d_law_915 (v := 0) (by decide) ?_
    exact h.elim
set_option maxRecDepth 4000 in
theorem s_law_917 {l : Launch} {b0 L : Nat} {xs : Nat → Int32} {ce sl : Nat} {sh : aw_SH} {S : aw_S} {a m : Nat} {i3 : Int32} (hce : ce ≤ 600000) (hsl : sl ≤ 7302250) (sa : sh[a]? = some (0, 0)) (sm : sh[m]? = some (0, 11)) (h : vp_in (i3 + (1 : Int32)) L ∧ Sp l m_Mg_come 200 0 0 [.ref a, .int (xs (i3 + (1 : Int32) : Int32).toNatClampNeg)] sh S (gI sh (fun x12 S11 => Sp l m_Md_come 200 0 0 [.ref m, .int (xs (i3 + (1 : Int32) : Int32).toNatClampNeg)] sh S11 (gI sh (fun x15 S14 => ((x12 = x15 → AL l b0 L xs ce sl 1619 [.float 0, .ref a, .ref m, .int i3] [] sh S14) ∧ (¬ x12 = x15 → False))))))) : AL l b0 L xs ce sl 917 [.float 0, .ref a, .ref m, .int i3] [] sh S := by
  refine q_aload_n (pc := 917) d_law_917 (x := a) rfl ?_
  refine q_aload_nX (pc := 918) d_law_918 (x := 0) rfl ?_
  refine q_iload_n (pc := 919) d_law_919 (x := i3) rfl ?_
  refine q_iconst (pc := 920) d_law_920 (v := 1) (by decide) ?_
  refine q_iadd (pc := 921) d_law_921 ?_
  obtain ⟨g1, h⟩ := h
  refine q_sld (pc := 922) d_law_922 g1 ?_
  refine q_callV (pc := 923) (k := a) (As := [.int (xs (i3 + (1 : Int32) : Int32).toNatClampNeg)]) (rest := []) (mc' := 0) (ms' := 0) lk_Lw_114 in_Mg_come se_Mg_come sa rfl d_law_923 k_Mg_come rfl rfl (Nat.le_of_ble_eq_true rfl) (by omega) (by omega) (Sp.mono h ?_)
  rintro rS11 shS11 S11 ⟨qS11, x12, uS11, h⟩
  subst uS11
  rw [qS11]
  refine q_aload_n (pc := 926) d_law_926 (x := m) rfl ?_
  refine q_aload_nX (pc := 927) d_law_927 (x := 0) rfl ?_
  refine q_iload_n (pc := 928) d_law_928 (x := i3) rfl ?_
  refine q_iconst (pc := 929) d_law_929 (v := 1) (by decide) ?_
  refine q_iadd (pc := 930) d_law_930 ?_
  refine q_sld (pc := 931) d_law_931 g1 ?_
  refine q_callV (pc := 932) (k := m) (As := [.int (xs (i3 + (1 : Int32) : Int32).toNatClampNeg)]) (rest := [.int x12]) (mc' := 0) (ms' := 0) lk_Lw_117 in_Md_come se_Md_come sm rfl d_law_932 k_Md_come rfl rfl (Nat.le_of_ble_eq_true rfl) (by omega) (by omega) (Sp.mono h ?_)
  rintro rS14 shS14 S14 ⟨qS14, x15, uS14, h⟩
  subst uS14
  rw [qS14]
  refine q_icmp_eq (pc := 935) d_law_935 (tgt := 1619) (by decide) (fun c16 => ?_) (fun c16 => ?_)
  · replace h := h.1 c16
    exact h
  · replace h := h.2 c16
    refine q_iconst (pc := 938) d_law_938 (v := 0) (by decide) ?_
    exact h.elim
set_option maxRecDepth 4000 in
theorem s_law_940 {l : Launch} {b0 L : Nat} {xs : Nat → Int32} {ce sl : Nat} {sh : aw_SH} {S : aw_S} {a m : Nat} {i3 : Int32} (hce : ce ≤ 600000) (hsl : sl ≤ 7302250) (sa : sh[a]? = some (0, 0)) (sm : sh[m]? = some (0, 11)) (h : vp_in (i3 + (1 : Int32)) L ∧ vp_in (i3 + (2 : Int32)) L ∧ Sp l m_Mg_rule 200 0 0 [.ref a, .int (xs (i3 + (1 : Int32) : Int32).toNatClampNeg), .int (xs (i3 + (2 : Int32) : Int32).toNatClampNeg)] sh S (gI sh (fun x43 S42 => Sp l m_Md_rule 200 0 0 [.ref m, .int (xs (i3 + (1 : Int32) : Int32).toNatClampNeg), .int (xs (i3 + (2 : Int32) : Int32).toNatClampNeg)] sh S42 (gI sh (fun x47 S46 => ((x43 = x47 → AL l b0 L xs ce sl 1619 [.float 0, .ref a, .ref m, .int i3] [] sh S46) ∧ (¬ x43 = x47 → False))))))) : AL l b0 L xs ce sl 940 [.float 0, .ref a, .ref m, .int i3] [] sh S := by
  refine q_aload_n (pc := 940) d_law_940 (x := a) rfl ?_
  refine q_aload_nX (pc := 941) d_law_941 (x := 0) rfl ?_
  refine q_iload_n (pc := 942) d_law_942 (x := i3) rfl ?_
  refine q_iconst (pc := 943) d_law_943 (v := 1) (by decide) ?_
  refine q_iadd (pc := 944) d_law_944 ?_
  obtain ⟨g1, h⟩ := h
  refine q_sld (pc := 945) d_law_945 g1 ?_
  refine q_aload_nX (pc := 946) d_law_946 (x := 0) rfl ?_
  refine q_iload_n (pc := 947) d_law_947 (x := i3) rfl ?_
  refine q_iconst (pc := 948) d_law_948 (v := 2) (by decide) ?_
  refine q_iadd (pc := 949) d_law_949 ?_
  obtain ⟨g31, h⟩ := h
  refine q_sld (pc := 950) d_law_950 g31 ?_
  refine q_callV (pc := 951) (k := a) (As := [.int (xs (i3 + (1 : Int32) : Int32).toNatClampNeg), .int (xs (i3 + (2 : Int32) : Int32).toNatClampNeg)]) (rest := []) (mc' := 0) (ms' := 0) lk_Lw_118 in_Mg_rule se_Mg_rule sa rfl d_law_951 k_Mg_rule rfl rfl (Nat.le_of_ble_eq_true rfl) (by omega) (by omega) (Sp.mono h ?_)
  rintro rS42 shS42 S42 ⟨qS42, x43, uS42, h⟩
  subst uS42
  rw [qS42]
  refine q_aload_n (pc := 954) d_law_954 (x := m) rfl ?_
  refine q_aload_nX (pc := 955) d_law_955 (x := 0) rfl ?_
  refine q_iload_n (pc := 956) d_law_956 (x := i3) rfl ?_
  refine q_iconst (pc := 957) d_law_957 (v := 1) (by decide) ?_
  refine q_iadd (pc := 958) d_law_958 ?_
  refine q_sld (pc := 959) d_law_959 g1 ?_
  refine q_aload_nX (pc := 960) d_law_960 (x := 0) rfl ?_
  refine q_iload_n (pc := 961) d_law_961 (x := i3) rfl ?_
  refine q_iconst (pc := 962) d_law_962 (v := 2) (by decide) ?_
  refine q_iadd (pc := 963) d_law_963 ?_
  refine q_sld (pc := 964) d_law_964 g31 ?_
  refine q_callV (pc := 965) (k := m) (As := [.int (xs (i3 + (1 : Int32) : Int32).toNatClampNeg), .int (xs (i3 + (2 : Int32) : Int32).toNatClampNeg)]) (rest := [.int x43]) (mc' := 0) (ms' := 0) lk_Lw_121 in_Md_rule se_Md_rule sm rfl d_law_965 k_Md_rule rfl rfl (Nat.le_of_ble_eq_true rfl) (by omega) (by omega) (Sp.mono h ?_)
  rintro rS46 shS46 S46 ⟨qS46, x47, uS46, h⟩
  subst uS46
  rw [qS46]
  refine q_icmp_eq (pc := 968) d_law_968 (tgt := 1619) (by decide) (fun c48 => ?_) (fun c48 => ?_)
  · replace h := h.1 c48
    exact h
  · replace h := h.2 c48
    refine q_iconst (pc := 971) d_law_971 (v := 0) (by decide) ?_
    exact h.elim
set_option maxRecDepth 4000 in
theorem s_law_973 {l : Launch} {b0 L : Nat} {xs : Nat → Int32} {ce sl : Nat} {sh : aw_SH} {S : aw_S} {a m : Nat} {i3 : Int32} (hce : ce ≤ 600000) (hsl : sl ≤ 7302250) (sa : sh[a]? = some (0, 0)) (sm : sh[m]? = some (0, 11)) (h : vp_in (i3 + (1 : Int32)) L ∧ Sp l m_Mg_bound 200 0 0 [.ref a, .int (xs (i3 + (1 : Int32) : Int32).toNatClampNeg)] sh S (gI sh (fun x12 S11 => Sp l m_Md_bound 200 0 0 [.ref m, .int (xs (i3 + (1 : Int32) : Int32).toNatClampNeg)] sh S11 (gI sh (fun x15 S14 => ((x12 = x15 → AL l b0 L xs ce sl 1619 [.float 0, .ref a, .ref m, .int i3] [] sh S14) ∧ (¬ x12 = x15 → False))))))) : AL l b0 L xs ce sl 973 [.float 0, .ref a, .ref m, .int i3] [] sh S := by
  refine q_aload_n (pc := 973) d_law_973 (x := a) rfl ?_
  refine q_aload_nX (pc := 974) d_law_974 (x := 0) rfl ?_
  refine q_iload_n (pc := 975) d_law_975 (x := i3) rfl ?_
  refine q_iconst (pc := 976) d_law_976 (v := 1) (by decide) ?_
  refine q_iadd (pc := 977) d_law_977 ?_
  obtain ⟨g1, h⟩ := h
  refine q_sld (pc := 978) d_law_978 g1 ?_
  refine q_callV (pc := 979) (k := a) (As := [.int (xs (i3 + (1 : Int32) : Int32).toNatClampNeg)]) (rest := []) (mc' := 0) (ms' := 0) lk_Lw_122 in_Mg_bound se_Mg_bound sa rfl d_law_979 k_Mg_bound rfl rfl (Nat.le_of_ble_eq_true rfl) (by omega) (by omega) (Sp.mono h ?_)
  rintro rS11 shS11 S11 ⟨qS11, x12, uS11, h⟩
  subst uS11
  rw [qS11]
  refine q_aload_n (pc := 982) d_law_982 (x := m) rfl ?_
  refine q_aload_nX (pc := 983) d_law_983 (x := 0) rfl ?_
  refine q_iload_n (pc := 984) d_law_984 (x := i3) rfl ?_
  refine q_iconst (pc := 985) d_law_985 (v := 1) (by decide) ?_
  refine q_iadd (pc := 986) d_law_986 ?_
  refine q_sld (pc := 987) d_law_987 g1 ?_
  refine q_callV (pc := 988) (k := m) (As := [.int (xs (i3 + (1 : Int32) : Int32).toNatClampNeg)]) (rest := [.int x12]) (mc' := 0) (ms' := 0) lk_Lw_125 in_Md_bound se_Md_bound sm rfl d_law_988 k_Md_bound rfl rfl (Nat.le_of_ble_eq_true rfl) (by omega) (by omega) (Sp.mono h ?_)
  rintro rS14 shS14 S14 ⟨qS14, x15, uS14, h⟩
  subst uS14
  rw [qS14]
  refine q_icmp_eq (pc := 991) d_law_991 (tgt := 1619) (by decide) (fun c16 => ?_) (fun c16 => ?_)
  · replace h := h.1 c16
    exact h
  · replace h := h.2 c16
    refine q_iconst (pc := 994) d_law_994 (v := 0) (by decide) ?_
    exact h.elim
set_option maxRecDepth 4000 in
theorem s_law_996 {l : Launch} {b0 L : Nat} {xs : Nat → Int32} {ce sl : Nat} {sh : aw_SH} {S : aw_S} {a m : Nat} {i3 : Int32} (hce : ce ≤ 600000) (hsl : sl ≤ 7302250) (sa : sh[a]? = some (0, 0)) (sm : sh[m]? = some (0, 11)) (h : Sp l m_Mg_homeward 200 0 0 [.ref a] sh S (gI sh (fun x2 S1 => Sp l m_Md_homeward 200 0 0 [.ref m] sh S1 (gI sh (fun x4 S3 => ((x2 = x4 → AL l b0 L xs ce sl 1619 [.float 0, .ref a, .ref m, .int i3] [] sh S3) ∧ (¬ x2 = x4 → False))))))) : AL l b0 L xs ce sl 996 [.float 0, .ref a, .ref m, .int i3] [] sh S := by
  refine q_aload_n (pc := 996) d_law_996 (x := a) rfl ?_
  refine q_callV (pc := 997) (k := a) (As := []) (rest := []) (mc' := 0) (ms' := 0) lk_Lw_126 in_Mg_homeward se_Mg_homeward sa rfl d_law_997 k_Mg_homeward rfl rfl (Nat.le_of_ble_eq_true rfl) (by omega) (by omega) (Sp.mono h ?_)
  rintro rS1 shS1 S1 ⟨qS1, x2, uS1, h⟩
  subst uS1
  rw [qS1]
  refine q_aload_n (pc := 1000) d_law_1000 (x := m) rfl ?_
  refine q_callV (pc := 1001) (k := m) (As := []) (rest := [.int x2]) (mc' := 0) (ms' := 0) lk_Lw_129 in_Md_homeward se_Md_homeward sm rfl d_law_1001 k_Md_homeward rfl rfl (Nat.le_of_ble_eq_true rfl) (by omega) (by omega) (Sp.mono h ?_)
  rintro rS3 shS3 S3 ⟨qS3, x4, uS3, h⟩
  subst uS3
  rw [qS3]
  refine q_icmp_eq (pc := 1004) d_law_1004 (tgt := 1619) (by decide) (fun c5 => ?_) (fun c5 => ?_)
  · replace h := h.1 c5
    exact h
  · replace h := h.2 c5
    refine q_iconst (pc := 1007) d_law_1007 (v := 0) (by decide) ?_
    exact h.elim
set_option maxRecDepth 4000 in
theorem s_law_1009 {l : Launch} {b0 L : Nat} {xs : Nat → Int32} {ce sl : Nat} {sh : aw_SH} {S : aw_S} {a m : Nat} {i3 : Int32} (hce : ce ≤ 600000) (hsl : sl ≤ 7302250) (sa : sh[a]? = some (0, 0)) (sm : sh[m]? = some (0, 11)) (h : vp_in (i3 + (1 : Int32)) L ∧ Sp l m_Mg_homewardAt 200 0 0 [.ref a, .int (xs (i3 + (1 : Int32) : Int32).toNatClampNeg)] sh S (gI sh (fun x12 S11 => Sp l m_Md_homewardAt 200 0 0 [.ref m, .int (xs (i3 + (1 : Int32) : Int32).toNatClampNeg)] sh S11 (gI sh (fun x15 S14 => ((x12 = x15 → AL l b0 L xs ce sl 1619 [.float 0, .ref a, .ref m, .int i3] [] sh S14) ∧ (¬ x12 = x15 → False))))))) : AL l b0 L xs ce sl 1009 [.float 0, .ref a, .ref m, .int i3] [] sh S := by
  refine q_aload_n (pc := 1009) d_law_1009 (x := a) rfl ?_
  refine q_aload_nX (pc := 1010) d_law_1010 (x := 0) rfl ?_
  refine q_iload_n (pc := 1011) d_law_1011 (x := i3) rfl ?_
  refine q_iconst (pc := 1012) d_law_1012 (v := 1) (by decide) ?_
  refine q_iadd (pc := 1013) d_law_1013 ?_
  obtain ⟨g1, h⟩ := h
  refine q_sld (pc := 1014) d_law_1014 g1 ?_
  refine q_callV (pc := 1015) (k := a) (As := [.int (xs (i3 + (1 : Int32) : Int32).toNatClampNeg)]) (rest := []) (mc' := 0) (ms' := 0) lk_Lw_130 in_Mg_homewardAt se_Mg_homewardAt sa rfl d_law_1015 k_Mg_homewardAt rfl rfl (Nat.le_of_ble_eq_true rfl) (by omega) (by omega) (Sp.mono h ?_)
  rintro rS11 shS11 S11 ⟨qS11, x12, uS11, h⟩
  subst uS11
  rw [qS11]
  refine q_aload_n (pc := 1018) d_law_1018 (x := m) rfl ?_
  refine q_aload_nX (pc := 1019) d_law_1019 (x := 0) rfl ?_
  refine q_iload_n (pc := 1020) d_law_1020 (x := i3) rfl ?_
  refine q_iconst (pc := 1021) d_law_1021 (v := 1) (by decide) ?_
  refine q_iadd (pc := 1022) d_law_1022 ?_
  refine q_sld (pc := 1023) d_law_1023 g1 ?_
  refine q_callV (pc := 1024) (k := m) (As := [.int (xs (i3 + (1 : Int32) : Int32).toNatClampNeg)]) (rest := [.int x12]) (mc' := 0) (ms' := 0) lk_Lw_133 in_Md_homewardAt se_Md_homewardAt sm rfl d_law_1024 k_Md_homewardAt rfl rfl (Nat.le_of_ble_eq_true rfl) (by omega) (by omega) (Sp.mono h ?_)
  rintro rS14 shS14 S14 ⟨qS14, x15, uS14, h⟩
  subst uS14
  rw [qS14]
  refine q_icmp_eq (pc := 1027) d_law_1027 (tgt := 1619) (by decide) (fun c16 => ?_) (fun c16 => ?_)
  · replace h := h.1 c16
    exact h
  · replace h := h.2 c16
    refine q_iconst (pc := 1030) d_law_1030 (v := 0) (by decide) ?_
    exact h.elim
set_option maxRecDepth 4000 in
theorem s_law_1032 {l : Launch} {b0 L : Nat} {xs : Nat → Int32} {ce sl : Nat} {sh : aw_SH} {S : aw_S} {a m : Nat} {i3 : Int32} (hce : ce ≤ 600000) (hsl : sl ≤ 7302250) (sa : sh[a]? = some (0, 0)) (sm : sh[m]? = some (0, 11)) (h : vp_in (i3 + (1 : Int32)) L ∧ vp_in (i3 + (2 : Int32)) L ∧ Sp l m_Mg_meet 200 0 0 [.ref a, .int (xs (i3 + (1 : Int32) : Int32).toNatClampNeg), .int (xs (i3 + (2 : Int32) : Int32).toNatClampNeg)] sh S (gI sh (fun x43 S42 => Sp l m_Md_meet 200 0 0 [.ref m, .int (xs (i3 + (1 : Int32) : Int32).toNatClampNeg), .int (xs (i3 + (2 : Int32) : Int32).toNatClampNeg)] sh S42 (gI sh (fun x47 S46 => ((x43 = x47 → AL l b0 L xs ce sl 1619 [.float 0, .ref a, .ref m, .int i3] [] sh S46) ∧ (¬ x43 = x47 → False))))))) : AL l b0 L xs ce sl 1032 [.float 0, .ref a, .ref m, .int i3] [] sh S := by
  refine q_aload_n (pc := 1032) d_law_1032 (x := a) rfl ?_
  refine q_aload_nX (pc := 1033) d_law_1033 (x := 0) rfl ?_
  refine q_iload_n (pc := 1034) d_law_1034 (x := i3) rfl ?_
  refine q_iconst (pc := 1035) d_law_1035 (v := 1) (by decide) ?_
  refine q_iadd (pc := 1036) d_law_1036 ?_
  obtain ⟨g1, h⟩ := h
  refine q_sld (pc := 1037) d_law_1037 g1 ?_
  refine q_aload_nX (pc := 1038) d_law_1038 (x := 0) rfl ?_
  refine q_iload_n (pc := 1039) d_law_1039 (x := i3) rfl ?_
  refine q_iconst (pc := 1040) d_law_1040 (v := 2) (by decide) ?_
  refine q_iadd (pc := 1041) d_law_1041 ?_
  obtain ⟨g31, h⟩ := h
  refine q_sld (pc := 1042) d_law_1042 g31 ?_
  refine q_callV (pc := 1043) (k := a) (As := [.int (xs (i3 + (1 : Int32) : Int32).toNatClampNeg), .int (xs (i3 + (2 : Int32) : Int32).toNatClampNeg)]) (rest := []) (mc' := 0) (ms' := 0) lk_Lw_134 in_Mg_meet se_Mg_meet sa rfl d_law_1043 k_Mg_meet rfl rfl (Nat.le_of_ble_eq_true rfl) (by omega) (by omega) (Sp.mono h ?_)
  rintro rS42 shS42 S42 ⟨qS42, x43, uS42, h⟩
  subst uS42
  rw [qS42]
  refine q_aload_n (pc := 1046) d_law_1046 (x := m) rfl ?_
  refine q_aload_nX (pc := 1047) d_law_1047 (x := 0) rfl ?_
  refine q_iload_n (pc := 1048) d_law_1048 (x := i3) rfl ?_
  refine q_iconst (pc := 1049) d_law_1049 (v := 1) (by decide) ?_
  refine q_iadd (pc := 1050) d_law_1050 ?_
  refine q_sld (pc := 1051) d_law_1051 g1 ?_
  refine q_aload_nX (pc := 1052) d_law_1052 (x := 0) rfl ?_
  refine q_iload_n (pc := 1053) d_law_1053 (x := i3) rfl ?_
  refine q_iconst (pc := 1054) d_law_1054 (v := 2) (by decide) ?_
  refine q_iadd (pc := 1055) d_law_1055 ?_
  refine q_sld (pc := 1056) d_law_1056 g31 ?_
  refine q_callV (pc := 1057) (k := m) (As := [.int (xs (i3 + (1 : Int32) : Int32).toNatClampNeg), .int (xs (i3 + (2 : Int32) : Int32).toNatClampNeg)]) (rest := [.int x43]) (mc' := 0) (ms' := 0) lk_Lw_137 in_Md_meet se_Md_meet sm rfl d_law_1057 k_Md_meet rfl rfl (Nat.le_of_ble_eq_true rfl) (by omega) (by omega) (Sp.mono h ?_)
  rintro rS46 shS46 S46 ⟨qS46, x47, uS46, h⟩
  subst uS46
  rw [qS46]
  refine q_icmp_eq (pc := 1060) d_law_1060 (tgt := 1619) (by decide) (fun c48 => ?_) (fun c48 => ?_)
  · replace h := h.1 c48
    exact h
  · replace h := h.2 c48
    refine q_iconst (pc := 1063) d_law_1063 (v := 0) (by decide) ?_
    exact h.elim
set_option maxRecDepth 4000 in
theorem s_law_1065 {l : Launch} {b0 L : Nat} {xs : Nat → Int32} {ce sl : Nat} {sh : aw_SH} {S : aw_S} {a m : Nat} {i3 : Int32} (hce : ce ≤ 600000) (hsl : sl ≤ 7302250) (sa : sh[a]? = some (0, 0)) (sm : sh[m]? = some (0, 11)) (h : vp_in (i3 + (1 : Int32)) L ∧ vp_in (i3 + (2 : Int32)) L ∧ Sp l m_Mg_same 200 0 0 [.ref a, .int (xs (i3 + (1 : Int32) : Int32).toNatClampNeg), .int (xs (i3 + (2 : Int32) : Int32).toNatClampNeg)] sh S (gI sh (fun x43 S42 => Sp l m_Md_same 200 0 0 [.ref m, .int (xs (i3 + (1 : Int32) : Int32).toNatClampNeg), .int (xs (i3 + (2 : Int32) : Int32).toNatClampNeg)] sh S42 (gI sh (fun x47 S46 => ((x43 = x47 → AL l b0 L xs ce sl 1619 [.float 0, .ref a, .ref m, .int i3] [] sh S46) ∧ (¬ x43 = x47 → False))))))) : AL l b0 L xs ce sl 1065 [.float 0, .ref a, .ref m, .int i3] [] sh S := by
  refine q_aload_n (pc := 1065) d_law_1065 (x := a) rfl ?_
  refine q_aload_nX (pc := 1066) d_law_1066 (x := 0) rfl ?_
  refine q_iload_n (pc := 1067) d_law_1067 (x := i3) rfl ?_
  refine q_iconst (pc := 1068) d_law_1068 (v := 1) (by decide) ?_
  refine q_iadd (pc := 1069) d_law_1069 ?_
  obtain ⟨g1, h⟩ := h
  refine q_sld (pc := 1070) d_law_1070 g1 ?_
  refine q_aload_nX (pc := 1071) d_law_1071 (x := 0) rfl ?_
  refine q_iload_n (pc := 1072) d_law_1072 (x := i3) rfl ?_
  refine q_iconst (pc := 1073) d_law_1073 (v := 2) (by decide) ?_
  refine q_iadd (pc := 1074) d_law_1074 ?_
  obtain ⟨g31, h⟩ := h
  refine q_sld (pc := 1075) d_law_1075 g31 ?_
  refine q_callV (pc := 1076) (k := a) (As := [.int (xs (i3 + (1 : Int32) : Int32).toNatClampNeg), .int (xs (i3 + (2 : Int32) : Int32).toNatClampNeg)]) (rest := []) (mc' := 0) (ms' := 0) lk_Lw_138 in_Mg_same se_Mg_same sa rfl d_law_1076 k_Mg_same rfl rfl (Nat.le_of_ble_eq_true rfl) (by omega) (by omega) (Sp.mono h ?_)
  rintro rS42 shS42 S42 ⟨qS42, x43, uS42, h⟩
  subst uS42
  rw [qS42]
  refine q_aload_n (pc := 1079) d_law_1079 (x := m) rfl ?_
  refine q_aload_nX (pc := 1080) d_law_1080 (x := 0) rfl ?_
  refine q_iload_n (pc := 1081) d_law_1081 (x := i3) rfl ?_
  refine q_iconst (pc := 1082) d_law_1082 (v := 1) (by decide) ?_
  refine q_iadd (pc := 1083) d_law_1083 ?_
  refine q_sld (pc := 1084) d_law_1084 g1 ?_
  refine q_aload_nX (pc := 1085) d_law_1085 (x := 0) rfl ?_
  refine q_iload_n (pc := 1086) d_law_1086 (x := i3) rfl ?_
  refine q_iconst (pc := 1087) d_law_1087 (v := 2) (by decide) ?_
  refine q_iadd (pc := 1088) d_law_1088 ?_
  refine q_sld (pc := 1089) d_law_1089 g31 ?_
  refine q_callV (pc := 1090) (k := m) (As := [.int (xs (i3 + (1 : Int32) : Int32).toNatClampNeg), .int (xs (i3 + (2 : Int32) : Int32).toNatClampNeg)]) (rest := [.int x43]) (mc' := 0) (ms' := 0) lk_Lw_141 in_Md_same se_Md_same sm rfl d_law_1090 k_Md_same rfl rfl (Nat.le_of_ble_eq_true rfl) (by omega) (by omega) (Sp.mono h ?_)
  rintro rS46 shS46 S46 ⟨qS46, x47, uS46, h⟩
  subst uS46
  rw [qS46]
  refine q_icmp_eq (pc := 1093) d_law_1093 (tgt := 1619) (by decide) (fun c48 => ?_) (fun c48 => ?_)
  · replace h := h.1 c48
    exact h
  · replace h := h.2 c48
    refine q_iconst (pc := 1096) d_law_1096 (v := 0) (by decide) ?_
    exact h.elim
set_option maxRecDepth 4000 in
theorem s_law_1098 {l : Launch} {b0 L : Nat} {xs : Nat → Int32} {ce sl : Nat} {sh : aw_SH} {S : aw_S} {a m : Nat} {i3 : Int32} (hce : ce ≤ 600000) (hsl : sl ≤ 7302250) (sa : sh[a]? = some (0, 0)) (sm : sh[m]? = some (0, 11)) (h : vp_in (i3 + (1 : Int32)) L ∧ vp_in (i3 + (2 : Int32)) L ∧ Sp l m_Mg_apart 200 0 0 [.ref a, .int (xs (i3 + (1 : Int32) : Int32).toNatClampNeg), .int (xs (i3 + (2 : Int32) : Int32).toNatClampNeg)] sh S (gI sh (fun x43 S42 => Sp l m_Md_apart 200 0 0 [.ref m, .int (xs (i3 + (1 : Int32) : Int32).toNatClampNeg), .int (xs (i3 + (2 : Int32) : Int32).toNatClampNeg)] sh S42 (gI sh (fun x47 S46 => ((x43 = x47 → AL l b0 L xs ce sl 1619 [.float 0, .ref a, .ref m, .int i3] [] sh S46) ∧ (¬ x43 = x47 → False))))))) : AL l b0 L xs ce sl 1098 [.float 0, .ref a, .ref m, .int i3] [] sh S := by
  refine q_aload_n (pc := 1098) d_law_1098 (x := a) rfl ?_
  refine q_aload_nX (pc := 1099) d_law_1099 (x := 0) rfl ?_
  refine q_iload_n (pc := 1100) d_law_1100 (x := i3) rfl ?_
  refine q_iconst (pc := 1101) d_law_1101 (v := 1) (by decide) ?_
  refine q_iadd (pc := 1102) d_law_1102 ?_
  obtain ⟨g1, h⟩ := h
  refine q_sld (pc := 1103) d_law_1103 g1 ?_
  refine q_aload_nX (pc := 1104) d_law_1104 (x := 0) rfl ?_
  refine q_iload_n (pc := 1105) d_law_1105 (x := i3) rfl ?_
  refine q_iconst (pc := 1106) d_law_1106 (v := 2) (by decide) ?_
  refine q_iadd (pc := 1107) d_law_1107 ?_
  obtain ⟨g31, h⟩ := h
  refine q_sld (pc := 1108) d_law_1108 g31 ?_
  refine q_callV (pc := 1109) (k := a) (As := [.int (xs (i3 + (1 : Int32) : Int32).toNatClampNeg), .int (xs (i3 + (2 : Int32) : Int32).toNatClampNeg)]) (rest := []) (mc' := 0) (ms' := 0) lk_Lw_142 in_Mg_apart se_Mg_apart sa rfl d_law_1109 k_Mg_apart rfl rfl (Nat.le_of_ble_eq_true rfl) (by omega) (by omega) (Sp.mono h ?_)
  rintro rS42 shS42 S42 ⟨qS42, x43, uS42, h⟩
  subst uS42
  rw [qS42]
  refine q_aload_n (pc := 1112) d_law_1112 (x := m) rfl ?_
  refine q_aload_nX (pc := 1113) d_law_1113 (x := 0) rfl ?_
  refine q_iload_n (pc := 1114) d_law_1114 (x := i3) rfl ?_
  refine q_iconst (pc := 1115) d_law_1115 (v := 1) (by decide) ?_
  refine q_iadd (pc := 1116) d_law_1116 ?_
  refine q_sld (pc := 1117) d_law_1117 g1 ?_
  refine q_aload_nX (pc := 1118) d_law_1118 (x := 0) rfl ?_
  refine q_iload_n (pc := 1119) d_law_1119 (x := i3) rfl ?_
  refine q_iconst (pc := 1120) d_law_1120 (v := 2) (by decide) ?_
  refine q_iadd (pc := 1121) d_law_1121 ?_
  refine q_sld (pc := 1122) d_law_1122 g31 ?_
  refine q_callV (pc := 1123) (k := m) (As := [.int (xs (i3 + (1 : Int32) : Int32).toNatClampNeg), .int (xs (i3 + (2 : Int32) : Int32).toNatClampNeg)]) (rest := [.int x43]) (mc' := 0) (ms' := 0) lk_Lw_145 in_Md_apart se_Md_apart sm rfl d_law_1123 k_Md_apart rfl rfl (Nat.le_of_ble_eq_true rfl) (by omega) (by omega) (Sp.mono h ?_)
  rintro rS46 shS46 S46 ⟨qS46, x47, uS46, h⟩
  subst uS46
  rw [qS46]
  refine q_icmp_eq (pc := 1126) d_law_1126 (tgt := 1619) (by decide) (fun c48 => ?_) (fun c48 => ?_)
  · replace h := h.1 c48
    exact h
  · replace h := h.2 c48
    refine q_iconst (pc := 1129) d_law_1129 (v := 0) (by decide) ?_
    exact h.elim
set_option maxRecDepth 4000 in
theorem s_law_1131 {l : Launch} {b0 L : Nat} {xs : Nat → Int32} {ce sl : Nat} {sh : aw_SH} {S : aw_S} {a m : Nat} {i3 : Int32} (hce : ce ≤ 600000) (hsl : sl ≤ 7302250) (sa : sh[a]? = some (0, 0)) (sm : sh[m]? = some (0, 11)) (h : vp_in (i3 + (1 : Int32)) L ∧ vp_in (i3 + (2 : Int32)) L ∧ Sp l m_Mg_slips 200 0 0 [.ref a, .int (xs (i3 + (1 : Int32) : Int32).toNatClampNeg), .int (xs (i3 + (2 : Int32) : Int32).toNatClampNeg)] sh S (gI sh (fun x43 S42 => Sp l m_Md_slips 200 0 0 [.ref m, .int (xs (i3 + (1 : Int32) : Int32).toNatClampNeg), .int (xs (i3 + (2 : Int32) : Int32).toNatClampNeg)] sh S42 (gI sh (fun x47 S46 => ((x43 = x47 → AL l b0 L xs ce sl 1619 [.float 0, .ref a, .ref m, .int i3] [] sh S46) ∧ (¬ x43 = x47 → False))))))) : AL l b0 L xs ce sl 1131 [.float 0, .ref a, .ref m, .int i3] [] sh S := by
  refine q_aload_n (pc := 1131) d_law_1131 (x := a) rfl ?_
  refine q_aload_nX (pc := 1132) d_law_1132 (x := 0) rfl ?_
  refine q_iload_n (pc := 1133) d_law_1133 (x := i3) rfl ?_
  refine q_iconst (pc := 1134) d_law_1134 (v := 1) (by decide) ?_
  refine q_iadd (pc := 1135) d_law_1135 ?_
  obtain ⟨g1, h⟩ := h
  refine q_sld (pc := 1136) d_law_1136 g1 ?_
  refine q_aload_nX (pc := 1137) d_law_1137 (x := 0) rfl ?_
  refine q_iload_n (pc := 1138) d_law_1138 (x := i3) rfl ?_
  refine q_iconst (pc := 1139) d_law_1139 (v := 2) (by decide) ?_
  refine q_iadd (pc := 1140) d_law_1140 ?_
  obtain ⟨g31, h⟩ := h
  refine q_sld (pc := 1141) d_law_1141 g31 ?_
  refine q_callV (pc := 1142) (k := a) (As := [.int (xs (i3 + (1 : Int32) : Int32).toNatClampNeg), .int (xs (i3 + (2 : Int32) : Int32).toNatClampNeg)]) (rest := []) (mc' := 0) (ms' := 0) lk_Lw_146 in_Mg_slips se_Mg_slips sa rfl d_law_1142 k_Mg_slips rfl rfl (Nat.le_of_ble_eq_true rfl) (by omega) (by omega) (Sp.mono h ?_)
  rintro rS42 shS42 S42 ⟨qS42, x43, uS42, h⟩
  subst uS42
  rw [qS42]
  refine q_aload_n (pc := 1145) d_law_1145 (x := m) rfl ?_
  refine q_aload_nX (pc := 1146) d_law_1146 (x := 0) rfl ?_
  refine q_iload_n (pc := 1147) d_law_1147 (x := i3) rfl ?_
  refine q_iconst (pc := 1148) d_law_1148 (v := 1) (by decide) ?_
  refine q_iadd (pc := 1149) d_law_1149 ?_
  refine q_sld (pc := 1150) d_law_1150 g1 ?_
  refine q_aload_nX (pc := 1151) d_law_1151 (x := 0) rfl ?_
  refine q_iload_n (pc := 1152) d_law_1152 (x := i3) rfl ?_
  refine q_iconst (pc := 1153) d_law_1153 (v := 2) (by decide) ?_
  refine q_iadd (pc := 1154) d_law_1154 ?_
  refine q_sld (pc := 1155) d_law_1155 g31 ?_
  refine q_callV (pc := 1156) (k := m) (As := [.int (xs (i3 + (1 : Int32) : Int32).toNatClampNeg), .int (xs (i3 + (2 : Int32) : Int32).toNatClampNeg)]) (rest := [.int x43]) (mc' := 0) (ms' := 0) lk_Lw_149 in_Md_slips se_Md_slips sm rfl d_law_1156 k_Md_slips rfl rfl (Nat.le_of_ble_eq_true rfl) (by omega) (by omega) (Sp.mono h ?_)
  rintro rS46 shS46 S46 ⟨qS46, x47, uS46, h⟩
  subst uS46
  rw [qS46]
  refine q_icmp_eq (pc := 1159) d_law_1159 (tgt := 1619) (by decide) (fun c48 => ?_) (fun c48 => ?_)
  · replace h := h.1 c48
    exact h
  · replace h := h.2 c48
    refine q_iconst (pc := 1162) d_law_1162 (v := 0) (by decide) ?_
    exact h.elim
set_option maxRecDepth 4000 in
theorem s_law_1164 {l : Launch} {b0 L : Nat} {xs : Nat → Int32} {ce sl : Nat} {sh : aw_SH} {S : aw_S} {a m : Nat} {i3 : Int32} (hce : ce ≤ 600000) (hsl : sl ≤ 7302250) (sa : sh[a]? = some (0, 0)) (sm : sh[m]? = some (0, 11)) (h : vp_in (i3 + (1 : Int32)) L ∧ vp_in (i3 + (2 : Int32)) L ∧ vp_in (i3 + (3 : Int32)) L ∧ Sp l m_Mg_slipAt 200 0 0 [.ref a, .int (xs (i3 + (1 : Int32) : Int32).toNatClampNeg), .int (xs (i3 + (2 : Int32) : Int32).toNatClampNeg), .int (xs (i3 + (3 : Int32) : Int32).toNatClampNeg)] sh S (gI sh (fun x136 S135 => Sp l m_Md_slipAt 200 0 0 [.ref m, .int (xs (i3 + (1 : Int32) : Int32).toNatClampNeg), .int (xs (i3 + (2 : Int32) : Int32).toNatClampNeg), .int (xs (i3 + (3 : Int32) : Int32).toNatClampNeg)] sh S135 (gI sh (fun x141 S140 => ((x136 = x141 → AL l b0 L xs ce sl 1619 [.float 0, .ref a, .ref m, .int i3] [] sh S140) ∧ (¬ x136 = x141 → False))))))) : AL l b0 L xs ce sl 1164 [.float 0, .ref a, .ref m, .int i3] [] sh S := by
  refine q_aload_n (pc := 1164) d_law_1164 (x := a) rfl ?_
  refine q_aload_nX (pc := 1165) d_law_1165 (x := 0) rfl ?_
  refine q_iload_n (pc := 1166) d_law_1166 (x := i3) rfl ?_
  refine q_iconst (pc := 1167) d_law_1167 (v := 1) (by decide) ?_
  refine q_iadd (pc := 1168) d_law_1168 ?_
  obtain ⟨g1, h⟩ := h
  refine q_sld (pc := 1169) d_law_1169 g1 ?_
  refine q_aload_nX (pc := 1170) d_law_1170 (x := 0) rfl ?_
  refine q_iload_n (pc := 1171) d_law_1171 (x := i3) rfl ?_
  refine q_iconst (pc := 1172) d_law_1172 (v := 2) (by decide) ?_
  refine q_iadd (pc := 1173) d_law_1173 ?_
  obtain ⟨g91, h⟩ := h
  refine q_sld (pc := 1174) d_law_1174 g91 ?_
  refine q_aload_nX (pc := 1175) d_law_1175 (x := 0) rfl ?_
  refine q_iload_n (pc := 1176) d_law_1176 (x := i3) rfl ?_
  refine q_iconst (pc := 1177) d_law_1177 (v := 3) (by decide) ?_
  refine q_iadd (pc := 1178) d_law_1178 ?_
  obtain ⟨g123, h⟩ := h
  refine q_sld (pc := 1179) d_law_1179 g123 ?_
  refine q_callV (pc := 1180) (k := a) (As := [.int (xs (i3 + (1 : Int32) : Int32).toNatClampNeg), .int (xs (i3 + (2 : Int32) : Int32).toNatClampNeg), .int (xs (i3 + (3 : Int32) : Int32).toNatClampNeg)]) (rest := []) (mc' := 0) (ms' := 0) lk_Lw_150 in_Mg_slipAt se_Mg_slipAt sa rfl d_law_1180 k_Mg_slipAt rfl rfl (Nat.le_of_ble_eq_true rfl) (by omega) (by omega) (Sp.mono h ?_)
  rintro rS135 shS135 S135 ⟨qS135, x136, uS135, h⟩
  subst uS135
  rw [qS135]
  refine q_aload_n (pc := 1183) d_law_1183 (x := m) rfl ?_
  refine q_aload_nX (pc := 1184) d_law_1184 (x := 0) rfl ?_
  refine q_iload_n (pc := 1185) d_law_1185 (x := i3) rfl ?_
  refine q_iconst (pc := 1186) d_law_1186 (v := 1) (by decide) ?_
  refine q_iadd (pc := 1187) d_law_1187 ?_
  refine q_sld (pc := 1188) d_law_1188 g1 ?_
  refine q_aload_nX (pc := 1189) d_law_1189 (x := 0) rfl ?_
  refine q_iload_n (pc := 1190) d_law_1190 (x := i3) rfl ?_
  refine q_iconst (pc := 1191) d_law_1191 (v := 2) (by decide) ?_
  refine q_iadd (pc := 1192) d_law_1192 ?_
  refine q_sld (pc := 1193) d_law_1193 g91 ?_
  refine q_aload_nX (pc := 1194) d_law_1194 (x := 0) rfl ?_
  refine q_iload_n (pc := 1195) d_law_1195 (x := i3) rfl ?_
  refine q_iconst (pc := 1196) d_law_1196 (v := 3) (by decide) ?_
  refine q_iadd (pc := 1197) d_law_1197 ?_
  refine q_sld (pc := 1198) d_law_1198 g123 ?_
  refine q_callV (pc := 1199) (k := m) (As := [.int (xs (i3 + (1 : Int32) : Int32).toNatClampNeg), .int (xs (i3 + (2 : Int32) : Int32).toNatClampNeg), .int (xs (i3 + (3 : Int32) : Int32).toNatClampNeg)]) (rest := [.int x136]) (mc' := 0) (ms' := 0) lk_Lw_154 in_Md_slipAt se_Md_slipAt sm rfl d_law_1199 k_Md_slipAt rfl rfl (Nat.le_of_ble_eq_true rfl) (by omega) (by omega) (Sp.mono h ?_)
  rintro rS140 shS140 S140 ⟨qS140, x141, uS140, h⟩
  subst uS140
  rw [qS140]
  refine q_icmp_eq (pc := 1202) d_law_1202 (tgt := 1619) (by decide) (fun c142 => ?_) (fun c142 => ?_)
  · replace h := h.1 c142
    exact h
  · replace h := h.2 c142
    refine q_iconst (pc := 1205) d_law_1205 (v := 0) (by decide) ?_
    exact h.elim
set_option maxRecDepth 4000 in
theorem s_law_1207 {l : Launch} {b0 L : Nat} {xs : Nat → Int32} {ce sl : Nat} {sh : aw_SH} {S : aw_S} {a m : Nat} {i3 : Int32} (hce : ce ≤ 600000) (hsl : sl ≤ 7302250) (sa : sh[a]? = some (0, 0)) (sm : sh[m]? = some (0, 11)) (h : vp_in (i3 + (1 : Int32)) L ∧ vp_in (i3 + (2 : Int32)) L ∧ vp_in (i3 + (3 : Int32)) L ∧ Sp l m_Mg_fits 200 0 0 [.ref a, .int (xs (i3 + (1 : Int32) : Int32).toNatClampNeg), .int (xs (i3 + (2 : Int32) : Int32).toNatClampNeg), .int (xs (i3 + (3 : Int32) : Int32).toNatClampNeg)] sh S (gI sh (fun x136 S135 => Sp l m_Md_fits 200 0 0 [.ref m, .int (xs (i3 + (1 : Int32) : Int32).toNatClampNeg), .int (xs (i3 + (2 : Int32) : Int32).toNatClampNeg), .int (xs (i3 + (3 : Int32) : Int32).toNatClampNeg)] sh S135 (gI sh (fun x141 S140 => ((x136 = x141 → AL l b0 L xs ce sl 1619 [.float 0, .ref a, .ref m, .int i3] [] sh S140) ∧ (¬ x136 = x141 → False))))))) : AL l b0 L xs ce sl 1207 [.float 0, .ref a, .ref m, .int i3] [] sh S := by
  refine q_aload_n (pc := 1207) d_law_1207 (x := a) rfl ?_
  refine q_aload_nX (pc := 1208) d_law_1208 (x := 0) rfl ?_
  refine q_iload_n (pc := 1209) d_law_1209 (x := i3) rfl ?_
  refine q_iconst (pc := 1210) d_law_1210 (v := 1) (by decide) ?_
  refine q_iadd (pc := 1211) d_law_1211 ?_
  obtain ⟨g1, h⟩ := h
  refine q_sld (pc := 1212) d_law_1212 g1 ?_
  refine q_aload_nX (pc := 1213) d_law_1213 (x := 0) rfl ?_
  refine q_iload_n (pc := 1214) d_law_1214 (x := i3) rfl ?_
  refine q_iconst (pc := 1215) d_law_1215 (v := 2) (by decide) ?_
  refine q_iadd (pc := 1216) d_law_1216 ?_
  obtain ⟨g91, h⟩ := h
  refine q_sld (pc := 1217) d_law_1217 g91 ?_
  refine q_aload_nX (pc := 1218) d_law_1218 (x := 0) rfl ?_
  refine q_iload_n (pc := 1219) d_law_1219 (x := i3) rfl ?_
  refine q_iconst (pc := 1220) d_law_1220 (v := 3) (by decide) ?_
  refine q_iadd (pc := 1221) d_law_1221 ?_
  obtain ⟨g123, h⟩ := h
  refine q_sld (pc := 1222) d_law_1222 g123 ?_
  refine q_callV (pc := 1223) (k := a) (As := [.int (xs (i3 + (1 : Int32) : Int32).toNatClampNeg), .int (xs (i3 + (2 : Int32) : Int32).toNatClampNeg), .int (xs (i3 + (3 : Int32) : Int32).toNatClampNeg)]) (rest := []) (mc' := 0) (ms' := 0) lk_Lw_155 in_Mg_fits se_Mg_fits sa rfl d_law_1223 k_Mg_fits rfl rfl (Nat.le_of_ble_eq_true rfl) (by omega) (by omega) (Sp.mono h ?_)
  rintro rS135 shS135 S135 ⟨qS135, x136, uS135, h⟩
  subst uS135
  rw [qS135]
  refine q_aload_n (pc := 1226) d_law_1226 (x := m) rfl ?_
  refine q_aload_nX (pc := 1227) d_law_1227 (x := 0) rfl ?_
  refine q_iload_n (pc := 1228) d_law_1228 (x := i3) rfl ?_
  refine q_iconst (pc := 1229) d_law_1229 (v := 1) (by decide) ?_
  refine q_iadd (pc := 1230) d_law_1230 ?_
  refine q_sld (pc := 1231) d_law_1231 g1 ?_
  refine q_aload_nX (pc := 1232) d_law_1232 (x := 0) rfl ?_
  refine q_iload_n (pc := 1233) d_law_1233 (x := i3) rfl ?_
  refine q_iconst (pc := 1234) d_law_1234 (v := 2) (by decide) ?_
  refine q_iadd (pc := 1235) d_law_1235 ?_
  refine q_sld (pc := 1236) d_law_1236 g91 ?_
  refine q_aload_nX (pc := 1237) d_law_1237 (x := 0) rfl ?_
  refine q_iload_n (pc := 1238) d_law_1238 (x := i3) rfl ?_
  refine q_iconst (pc := 1239) d_law_1239 (v := 3) (by decide) ?_
  refine q_iadd (pc := 1240) d_law_1240 ?_
  refine q_sld (pc := 1241) d_law_1241 g123 ?_
  refine q_callV (pc := 1242) (k := m) (As := [.int (xs (i3 + (1 : Int32) : Int32).toNatClampNeg), .int (xs (i3 + (2 : Int32) : Int32).toNatClampNeg), .int (xs (i3 + (3 : Int32) : Int32).toNatClampNeg)]) (rest := [.int x136]) (mc' := 0) (ms' := 0) lk_Lw_158 in_Md_fits se_Md_fits sm rfl d_law_1242 k_Md_fits rfl rfl (Nat.le_of_ble_eq_true rfl) (by omega) (by omega) (Sp.mono h ?_)
  rintro rS140 shS140 S140 ⟨qS140, x141, uS140, h⟩
  subst uS140
  rw [qS140]
  refine q_icmp_eq (pc := 1245) d_law_1245 (tgt := 1619) (by decide) (fun c142 => ?_) (fun c142 => ?_)
  · replace h := h.1 c142
    exact h
  · replace h := h.2 c142
    refine q_iconst (pc := 1248) d_law_1248 (v := 0) (by decide) ?_
    exact h.elim
set_option maxRecDepth 4000 in
theorem s_law_1250 {l : Launch} {b0 L : Nat} {xs : Nat → Int32} {ce sl : Nat} {sh : aw_SH} {S : aw_S} {a m : Nat} {i3 : Int32} (hce : ce ≤ 600000) (hsl : sl ≤ 7302250) (sa : sh[a]? = some (0, 0)) (sm : sh[m]? = some (0, 11)) (h : vp_in (i3 + (1 : Int32)) L ∧ vp_in (i3 + (2 : Int32)) L ∧ vp_in (i3 + (3 : Int32)) L ∧ vp_in (i3 + (4 : Int32)) L ∧ Sp l m_Mg_fitsAt 200 0 0 [.ref a, .int (xs (i3 + (1 : Int32) : Int32).toNatClampNeg), .int (xs (i3 + (2 : Int32) : Int32).toNatClampNeg), .int (xs (i3 + (3 : Int32) : Int32).toNatClampNeg), .int (xs (i3 + (4 : Int32) : Int32).toNatClampNeg)] sh S (gI sh (fun x413 S412 => Sp l m_Md_fitsAt 200 0 0 [.ref m, .int (xs (i3 + (1 : Int32) : Int32).toNatClampNeg), .int (xs (i3 + (2 : Int32) : Int32).toNatClampNeg), .int (xs (i3 + (3 : Int32) : Int32).toNatClampNeg), .int (xs (i3 + (4 : Int32) : Int32).toNatClampNeg)] sh S412 (gI sh (fun x419 S418 => ((x413 = x419 → AL l b0 L xs ce sl 1619 [.float 0, .ref a, .ref m, .int i3] [] sh S418) ∧ (¬ x413 = x419 → False))))))) : AL l b0 L xs ce sl 1250 [.float 0, .ref a, .ref m, .int i3] [] sh S := by
  refine q_aload_n (pc := 1250) d_law_1250 (x := a) rfl ?_
  refine q_aload_nX (pc := 1251) d_law_1251 (x := 0) rfl ?_
  refine q_iload_n (pc := 1252) d_law_1252 (x := i3) rfl ?_
  refine q_iconst (pc := 1253) d_law_1253 (v := 1) (by decide) ?_
  refine q_iadd (pc := 1254) d_law_1254 ?_
  obtain ⟨g1, h⟩ := h
  refine q_sld (pc := 1255) d_law_1255 g1 ?_
  refine q_aload_nX (pc := 1256) d_law_1256 (x := 0) rfl ?_
  refine q_iload_n (pc := 1257) d_law_1257 (x := i3) rfl ?_
  refine q_iconst (pc := 1258) d_law_1258 (v := 2) (by decide) ?_
  refine q_iadd (pc := 1259) d_law_1259 ?_
  obtain ⟨g271, h⟩ := h
  refine q_sld (pc := 1260) d_law_1260 g271 ?_
  refine q_aload_nX (pc := 1261) d_law_1261 (x := 0) rfl ?_
  refine q_iload_n (pc := 1262) d_law_1262 (x := i3) rfl ?_
  refine q_iconst (pc := 1263) d_law_1263 (v := 3) (by decide) ?_
  refine q_iadd (pc := 1264) d_law_1264 ?_
  obtain ⟨g365, h⟩ := h
  refine q_sld (pc := 1265) d_law_1265 g365 ?_
  refine q_aload_nX (pc := 1266) d_law_1266 (x := 0) rfl ?_
  refine q_iload_n (pc := 1267) d_law_1267 (x := i3) rfl ?_
  refine q_iconst (pc := 1268) d_law_1268 (v := 4) (by decide) ?_
  refine q_iadd (pc := 1269) d_law_1269 ?_
  obtain ⟨g399, h⟩ := h
  refine q_sld (pc := 1270) d_law_1270 g399 ?_
  refine q_callV (pc := 1271) (k := a) (As := [.int (xs (i3 + (1 : Int32) : Int32).toNatClampNeg), .int (xs (i3 + (2 : Int32) : Int32).toNatClampNeg), .int (xs (i3 + (3 : Int32) : Int32).toNatClampNeg), .int (xs (i3 + (4 : Int32) : Int32).toNatClampNeg)]) (rest := []) (mc' := 0) (ms' := 0) lk_Lw_159 in_Mg_fitsAt se_Mg_fitsAt sa rfl d_law_1271 k_Mg_fitsAt rfl rfl (Nat.le_of_ble_eq_true rfl) (by omega) (by omega) (Sp.mono h ?_)
  rintro rS412 shS412 S412 ⟨qS412, x413, uS412, h⟩
  subst uS412
  rw [qS412]
  refine q_aload_n (pc := 1274) d_law_1274 (x := m) rfl ?_
  refine q_aload_nX (pc := 1275) d_law_1275 (x := 0) rfl ?_
  refine q_iload_n (pc := 1276) d_law_1276 (x := i3) rfl ?_
  refine q_iconst (pc := 1277) d_law_1277 (v := 1) (by decide) ?_
  refine q_iadd (pc := 1278) d_law_1278 ?_
  refine q_sld (pc := 1279) d_law_1279 g1 ?_
  refine q_aload_nX (pc := 1280) d_law_1280 (x := 0) rfl ?_
  refine q_iload_n (pc := 1281) d_law_1281 (x := i3) rfl ?_
  refine q_iconst (pc := 1282) d_law_1282 (v := 2) (by decide) ?_
  refine q_iadd (pc := 1283) d_law_1283 ?_
  refine q_sld (pc := 1284) d_law_1284 g271 ?_
  refine q_aload_nX (pc := 1285) d_law_1285 (x := 0) rfl ?_
  refine q_iload_n (pc := 1286) d_law_1286 (x := i3) rfl ?_
  refine q_iconst (pc := 1287) d_law_1287 (v := 3) (by decide) ?_
  refine q_iadd (pc := 1288) d_law_1288 ?_
  refine q_sld (pc := 1289) d_law_1289 g365 ?_
  refine q_aload_nX (pc := 1290) d_law_1290 (x := 0) rfl ?_
  refine q_iload_n (pc := 1291) d_law_1291 (x := i3) rfl ?_
  refine q_iconst (pc := 1292) d_law_1292 (v := 4) (by decide) ?_
  refine q_iadd (pc := 1293) d_law_1293 ?_
  refine q_sld (pc := 1294) d_law_1294 g399 ?_
  refine q_callV (pc := 1295) (k := m) (As := [.int (xs (i3 + (1 : Int32) : Int32).toNatClampNeg), .int (xs (i3 + (2 : Int32) : Int32).toNatClampNeg), .int (xs (i3 + (3 : Int32) : Int32).toNatClampNeg), .int (xs (i3 + (4 : Int32) : Int32).toNatClampNeg)]) (rest := [.int x413]) (mc' := 0) (ms' := 0) lk_Lw_163 in_Md_fitsAt se_Md_fitsAt sm rfl d_law_1295 k_Md_fitsAt rfl rfl (Nat.le_of_ble_eq_true rfl) (by omega) (by omega) (Sp.mono h ?_)
  rintro rS418 shS418 S418 ⟨qS418, x419, uS418, h⟩
  subst uS418
  rw [qS418]
  refine q_icmp_eq (pc := 1298) d_law_1298 (tgt := 1619) (by decide) (fun c420 => ?_) (fun c420 => ?_)
  · replace h := h.1 c420
    exact h
  · replace h := h.2 c420
    refine q_iconst (pc := 1301) d_law_1301 (v := 0) (by decide) ?_
    exact h.elim
set_option maxRecDepth 4000 in
theorem s_law_1303 {l : Launch} {b0 L : Nat} {xs : Nat → Int32} {ce sl : Nat} {sh : aw_SH} {S : aw_S} {a m : Nat} {i3 : Int32} (hce : ce ≤ 600000) (hsl : sl ≤ 7302250) (sa : sh[a]? = some (0, 0)) (sm : sh[m]? = some (0, 11)) (h : vp_in (i3 + (1 : Int32)) L ∧ vp_in (i3 + (2 : Int32)) L ∧ vp_in (i3 + (3 : Int32)) L ∧ Sp l m_Mg_ask 200 0 0 [.ref a, .int (xs (i3 + (1 : Int32) : Int32).toNatClampNeg), .int (xs (i3 + (2 : Int32) : Int32).toNatClampNeg), .int (xs (i3 + (3 : Int32) : Int32).toNatClampNeg)] sh S (gI sh (fun x136 S135 => Sp l m_Md_ask 200 0 0 [.ref m, .int (xs (i3 + (1 : Int32) : Int32).toNatClampNeg), .int (xs (i3 + (2 : Int32) : Int32).toNatClampNeg), .int (xs (i3 + (3 : Int32) : Int32).toNatClampNeg)] sh S135 (gI sh (fun x141 S140 => ((x136 = x141 → AL l b0 L xs ce sl 1619 [.float 0, .ref a, .ref m, .int i3] [] sh S140) ∧ (¬ x136 = x141 → False))))))) : AL l b0 L xs ce sl 1303 [.float 0, .ref a, .ref m, .int i3] [] sh S := by
  refine q_aload_n (pc := 1303) d_law_1303 (x := a) rfl ?_
  refine q_aload_nX (pc := 1304) d_law_1304 (x := 0) rfl ?_
  refine q_iload_n (pc := 1305) d_law_1305 (x := i3) rfl ?_
  refine q_iconst (pc := 1306) d_law_1306 (v := 1) (by decide) ?_
  refine q_iadd (pc := 1307) d_law_1307 ?_
  obtain ⟨g1, h⟩ := h
  refine q_sld (pc := 1308) d_law_1308 g1 ?_
  refine q_aload_nX (pc := 1309) d_law_1309 (x := 0) rfl ?_
  refine q_iload_n (pc := 1310) d_law_1310 (x := i3) rfl ?_
  refine q_iconst (pc := 1311) d_law_1311 (v := 2) (by decide) ?_
  refine q_iadd (pc := 1312) d_law_1312 ?_
  obtain ⟨g91, h⟩ := h
  refine q_sld (pc := 1313) d_law_1313 g91 ?_
  refine q_aload_nX (pc := 1314) d_law_1314 (x := 0) rfl ?_
  refine q_iload_n (pc := 1315) d_law_1315 (x := i3) rfl ?_
  refine q_iconst (pc := 1316) d_law_1316 (v := 3) (by decide) ?_
  refine q_iadd (pc := 1317) d_law_1317 ?_
  obtain ⟨g123, h⟩ := h
  refine q_sld (pc := 1318) d_law_1318 g123 ?_
  refine q_callV (pc := 1319) (k := a) (As := [.int (xs (i3 + (1 : Int32) : Int32).toNatClampNeg), .int (xs (i3 + (2 : Int32) : Int32).toNatClampNeg), .int (xs (i3 + (3 : Int32) : Int32).toNatClampNeg)]) (rest := []) (mc' := 0) (ms' := 0) lk_Lw_164 in_Mg_ask se_Mg_ask sa rfl d_law_1319 k_Mg_ask rfl rfl (Nat.le_of_ble_eq_true rfl) (by omega) (by omega) (Sp.mono h ?_)
  rintro rS135 shS135 S135 ⟨qS135, x136, uS135, h⟩
  subst uS135
  rw [qS135]
  refine q_aload_n (pc := 1322) d_law_1322 (x := m) rfl ?_
  refine q_aload_nX (pc := 1323) d_law_1323 (x := 0) rfl ?_
  refine q_iload_n (pc := 1324) d_law_1324 (x := i3) rfl ?_
  refine q_iconst (pc := 1325) d_law_1325 (v := 1) (by decide) ?_
  refine q_iadd (pc := 1326) d_law_1326 ?_
  refine q_sld (pc := 1327) d_law_1327 g1 ?_
  refine q_aload_nX (pc := 1328) d_law_1328 (x := 0) rfl ?_
  refine q_iload_n (pc := 1329) d_law_1329 (x := i3) rfl ?_
  refine q_iconst (pc := 1330) d_law_1330 (v := 2) (by decide) ?_
  refine q_iadd (pc := 1331) d_law_1331 ?_
  refine q_sld (pc := 1332) d_law_1332 g91 ?_
  refine q_aload_nX (pc := 1333) d_law_1333 (x := 0) rfl ?_
  refine q_iload_n (pc := 1334) d_law_1334 (x := i3) rfl ?_
  refine q_iconst (pc := 1335) d_law_1335 (v := 3) (by decide) ?_
  refine q_iadd (pc := 1336) d_law_1336 ?_
  refine q_sld (pc := 1337) d_law_1337 g123 ?_
  refine q_callV (pc := 1338) (k := m) (As := [.int (xs (i3 + (1 : Int32) : Int32).toNatClampNeg), .int (xs (i3 + (2 : Int32) : Int32).toNatClampNeg), .int (xs (i3 + (3 : Int32) : Int32).toNatClampNeg)]) (rest := [.int x136]) (mc' := 0) (ms' := 0) lk_Lw_167 in_Md_ask se_Md_ask sm rfl d_law_1338 k_Md_ask rfl rfl (Nat.le_of_ble_eq_true rfl) (by omega) (by omega) (Sp.mono h ?_)
  rintro rS140 shS140 S140 ⟨qS140, x141, uS140, h⟩
  subst uS140
  rw [qS140]
  refine q_icmp_eq (pc := 1341) d_law_1341 (tgt := 1619) (by decide) (fun c142 => ?_) (fun c142 => ?_)
  · replace h := h.1 c142
    exact h
  · replace h := h.2 c142
    refine q_iconst (pc := 1344) d_law_1344 (v := 0) (by decide) ?_
    exact h.elim
set_option maxRecDepth 4000 in
theorem s_law_1346 {l : Launch} {b0 L : Nat} {xs : Nat → Int32} {ce sl : Nat} {sh : aw_SH} {S : aw_S} {a m : Nat} {i3 : Int32} (hce : ce ≤ 600000) (hsl : sl ≤ 7302250) (sa : sh[a]? = some (0, 0)) (sm : sh[m]? = some (0, 11)) (h : vp_in (i3 + (1 : Int32)) L ∧ Sp l m_Mg_game 200 0 0 [.ref a, .int (xs (i3 + (1 : Int32) : Int32).toNatClampNeg)] sh S (gI sh (fun x12 S11 => Sp l m_Md_game 200 0 0 [.ref m, .int (xs (i3 + (1 : Int32) : Int32).toNatClampNeg)] sh S11 (gI sh (fun x15 S14 => ((x12 = x15 → AL l b0 L xs ce sl 1619 [.float 0, .ref a, .ref m, .int i3] [] sh S14) ∧ (¬ x12 = x15 → False))))))) : AL l b0 L xs ce sl 1346 [.float 0, .ref a, .ref m, .int i3] [] sh S := by
  refine q_aload_n (pc := 1346) d_law_1346 (x := a) rfl ?_
  refine q_aload_nX (pc := 1347) d_law_1347 (x := 0) rfl ?_
  refine q_iload_n (pc := 1348) d_law_1348 (x := i3) rfl ?_
  refine q_iconst (pc := 1349) d_law_1349 (v := 1) (by decide) ?_
  refine q_iadd (pc := 1350) d_law_1350 ?_
  obtain ⟨g1, h⟩ := h
  refine q_sld (pc := 1351) d_law_1351 g1 ?_
  refine q_callV (pc := 1352) (k := a) (As := [.int (xs (i3 + (1 : Int32) : Int32).toNatClampNeg)]) (rest := []) (mc' := 0) (ms' := 0) lk_Lw_168 in_Mg_game se_Mg_game sa rfl d_law_1352 k_Mg_game rfl rfl (Nat.le_of_ble_eq_true rfl) (by omega) (by omega) (Sp.mono h ?_)
  rintro rS11 shS11 S11 ⟨qS11, x12, uS11, h⟩
  subst uS11
  rw [qS11]
  refine q_aload_n (pc := 1355) d_law_1355 (x := m) rfl ?_
  refine q_aload_nX (pc := 1356) d_law_1356 (x := 0) rfl ?_
  refine q_iload_n (pc := 1357) d_law_1357 (x := i3) rfl ?_
  refine q_iconst (pc := 1358) d_law_1358 (v := 1) (by decide) ?_
  refine q_iadd (pc := 1359) d_law_1359 ?_
  refine q_sld (pc := 1360) d_law_1360 g1 ?_
  refine q_callV (pc := 1361) (k := m) (As := [.int (xs (i3 + (1 : Int32) : Int32).toNatClampNeg)]) (rest := [.int x12]) (mc' := 0) (ms' := 0) lk_Lw_171 in_Md_game se_Md_game sm rfl d_law_1361 k_Md_game rfl rfl (Nat.le_of_ble_eq_true rfl) (by omega) (by omega) (Sp.mono h ?_)
  rintro rS14 shS14 S14 ⟨qS14, x15, uS14, h⟩
  subst uS14
  rw [qS14]
  refine q_icmp_eq (pc := 1364) d_law_1364 (tgt := 1619) (by decide) (fun c16 => ?_) (fun c16 => ?_)
  · replace h := h.1 c16
    exact h
  · replace h := h.2 c16
    refine q_iconst (pc := 1367) d_law_1367 (v := 0) (by decide) ?_
    exact h.elim
set_option maxRecDepth 4000 in
theorem s_law_1369 {l : Launch} {b0 L : Nat} {xs : Nat → Int32} {ce sl : Nat} {sh : aw_SH} {S : aw_S} {a m : Nat} {i3 : Int32} (hce : ce ≤ 600000) (hsl : sl ≤ 7302250) (sa : sh[a]? = some (0, 0)) (sm : sh[m]? = some (0, 11)) (h : vp_in (i3 + (1 : Int32)) L ∧ Sp l m_Mg_moveOf 200 0 0 [.ref a, .int (xs (i3 + (1 : Int32) : Int32).toNatClampNeg)] sh S (gI sh (fun x12 S11 => Sp l m_Md_moveOf 200 0 0 [.ref m, .int (xs (i3 + (1 : Int32) : Int32).toNatClampNeg)] sh S11 (gI sh (fun x15 S14 => ((x12 = x15 → AL l b0 L xs ce sl 1619 [.float 0, .ref a, .ref m, .int i3] [] sh S14) ∧ (¬ x12 = x15 → False))))))) : AL l b0 L xs ce sl 1369 [.float 0, .ref a, .ref m, .int i3] [] sh S := by
  refine q_aload_n (pc := 1369) d_law_1369 (x := a) rfl ?_
  refine q_aload_nX (pc := 1370) d_law_1370 (x := 0) rfl ?_
  refine q_iload_n (pc := 1371) d_law_1371 (x := i3) rfl ?_
  refine q_iconst (pc := 1372) d_law_1372 (v := 1) (by decide) ?_
  refine q_iadd (pc := 1373) d_law_1373 ?_
  obtain ⟨g1, h⟩ := h
  refine q_sld (pc := 1374) d_law_1374 g1 ?_
  refine q_callV (pc := 1375) (k := a) (As := [.int (xs (i3 + (1 : Int32) : Int32).toNatClampNeg)]) (rest := []) (mc' := 0) (ms' := 0) lk_Lw_172 in_Mg_moveOf se_Mg_moveOf sa rfl d_law_1375 k_Mg_moveOf rfl rfl (Nat.le_of_ble_eq_true rfl) (by omega) (by omega) (Sp.mono h ?_)
  rintro rS11 shS11 S11 ⟨qS11, x12, uS11, h⟩
  subst uS11
  rw [qS11]
  refine q_aload_n (pc := 1378) d_law_1378 (x := m) rfl ?_
  refine q_aload_nX (pc := 1379) d_law_1379 (x := 0) rfl ?_
  refine q_iload_n (pc := 1380) d_law_1380 (x := i3) rfl ?_
  refine q_iconst (pc := 1381) d_law_1381 (v := 1) (by decide) ?_
  refine q_iadd (pc := 1382) d_law_1382 ?_
  refine q_sld (pc := 1383) d_law_1383 g1 ?_
  refine q_callV (pc := 1384) (k := m) (As := [.int (xs (i3 + (1 : Int32) : Int32).toNatClampNeg)]) (rest := [.int x12]) (mc' := 0) (ms' := 0) lk_Lw_175 in_Md_moveOf se_Md_moveOf sm rfl d_law_1384 k_Md_moveOf rfl rfl (Nat.le_of_ble_eq_true rfl) (by omega) (by omega) (Sp.mono h ?_)
  rintro rS14 shS14 S14 ⟨qS14, x15, uS14, h⟩
  subst uS14
  rw [qS14]
  refine q_icmp_eq (pc := 1387) d_law_1387 (tgt := 1619) (by decide) (fun c16 => ?_) (fun c16 => ?_)
  · replace h := h.1 c16
    exact h
  · replace h := h.2 c16
    refine q_iconst (pc := 1390) d_law_1390 (v := 0) (by decide) ?_
    exact h.elim
set_option maxRecDepth 4000 in
theorem s_law_1392 {l : Launch} {b0 L : Nat} {xs : Nat → Int32} {ce sl : Nat} {sh : aw_SH} {S : aw_S} {a m : Nat} {i3 : Int32} (hce : ce ≤ 600000) (hsl : sl ≤ 7302250) (sa : sh[a]? = some (0, 0)) (sm : sh[m]? = some (0, 11)) (h : vp_in (i3 + (1 : Int32)) L ∧ vp_in (i3 + (2 : Int32)) L ∧ Sp l m_Mg_slipped 200 0 0 [.ref a, .int (xs (i3 + (1 : Int32) : Int32).toNatClampNeg), .int (xs (i3 + (2 : Int32) : Int32).toNatClampNeg)] sh S (gI sh (fun x43 S42 => Sp l m_Md_slipped 200 0 0 [.ref m, .int (xs (i3 + (1 : Int32) : Int32).toNatClampNeg), .int (xs (i3 + (2 : Int32) : Int32).toNatClampNeg)] sh S42 (gI sh (fun x47 S46 => ((x43 = x47 → AL l b0 L xs ce sl 1619 [.float 0, .ref a, .ref m, .int i3] [] sh S46) ∧ (¬ x43 = x47 → False))))))) : AL l b0 L xs ce sl 1392 [.float 0, .ref a, .ref m, .int i3] [] sh S := by
  refine q_aload_n (pc := 1392) d_law_1392 (x := a) rfl ?_
  refine q_aload_nX (pc := 1393) d_law_1393 (x := 0) rfl ?_
  refine q_iload_n (pc := 1394) d_law_1394 (x := i3) rfl ?_
  refine q_iconst (pc := 1395) d_law_1395 (v := 1) (by decide) ?_
  refine q_iadd (pc := 1396) d_law_1396 ?_
  obtain ⟨g1, h⟩ := h
  refine q_sld (pc := 1397) d_law_1397 g1 ?_
  refine q_aload_nX (pc := 1398) d_law_1398 (x := 0) rfl ?_
  refine q_iload_n (pc := 1399) d_law_1399 (x := i3) rfl ?_
  refine q_iconst (pc := 1400) d_law_1400 (v := 2) (by decide) ?_
  refine q_iadd (pc := 1401) d_law_1401 ?_
  obtain ⟨g31, h⟩ := h
  refine q_sld (pc := 1402) d_law_1402 g31 ?_
  refine q_callV (pc := 1403) (k := a) (As := [.int (xs (i3 + (1 : Int32) : Int32).toNatClampNeg), .int (xs (i3 + (2 : Int32) : Int32).toNatClampNeg)]) (rest := []) (mc' := 0) (ms' := 0) lk_Lw_176 in_Mg_slipped se_Mg_slipped sa rfl d_law_1403 k_Mg_slipped rfl rfl (Nat.le_of_ble_eq_true rfl) (by omega) (by omega) (Sp.mono h ?_)
  rintro rS42 shS42 S42 ⟨qS42, x43, uS42, h⟩
  subst uS42
  rw [qS42]
  refine q_aload_n (pc := 1406) d_law_1406 (x := m) rfl ?_
  refine q_aload_nX (pc := 1407) d_law_1407 (x := 0) rfl ?_
  refine q_iload_n (pc := 1408) d_law_1408 (x := i3) rfl ?_
  refine q_iconst (pc := 1409) d_law_1409 (v := 1) (by decide) ?_
  refine q_iadd (pc := 1410) d_law_1410 ?_
  refine q_sld (pc := 1411) d_law_1411 g1 ?_
  refine q_aload_nX (pc := 1412) d_law_1412 (x := 0) rfl ?_
  refine q_iload_n (pc := 1413) d_law_1413 (x := i3) rfl ?_
  refine q_iconst (pc := 1414) d_law_1414 (v := 2) (by decide) ?_
  refine q_iadd (pc := 1415) d_law_1415 ?_
  refine q_sld (pc := 1416) d_law_1416 g31 ?_
  refine q_callV (pc := 1417) (k := m) (As := [.int (xs (i3 + (1 : Int32) : Int32).toNatClampNeg), .int (xs (i3 + (2 : Int32) : Int32).toNatClampNeg)]) (rest := [.int x43]) (mc' := 0) (ms' := 0) lk_Lw_179 in_Md_slipped se_Md_slipped sm rfl d_law_1417 k_Md_slipped rfl rfl (Nat.le_of_ble_eq_true rfl) (by omega) (by omega) (Sp.mono h ?_)
  rintro rS46 shS46 S46 ⟨qS46, x47, uS46, h⟩
  subst uS46
  rw [qS46]
  refine q_icmp_eq (pc := 1420) d_law_1420 (tgt := 1619) (by decide) (fun c48 => ?_) (fun c48 => ?_)
  · replace h := h.1 c48
    exact h
  · replace h := h.2 c48
    refine q_iconst (pc := 1423) d_law_1423 (v := 0) (by decide) ?_
    exact h.elim
set_option maxRecDepth 4000 in
theorem s_law_1425 {l : Launch} {b0 L : Nat} {xs : Nat → Int32} {ce sl : Nat} {sh : aw_SH} {S : aw_S} {a m : Nat} {i3 : Int32} (hce : ce ≤ 600000) (hsl : sl ≤ 7302250) (sa : sh[a]? = some (0, 0)) (sm : sh[m]? = some (0, 11)) (h : vp_in (i3 + (1 : Int32)) L ∧ vp_in (i3 + (2 : Int32)) L ∧ vp_in (i3 + (3 : Int32)) L ∧ Sp l m_Mg_drift 200 0 0 [.ref a, .int (xs (i3 + (1 : Int32) : Int32).toNatClampNeg), .int (xs (i3 + (2 : Int32) : Int32).toNatClampNeg), .int (xs (i3 + (3 : Int32) : Int32).toNatClampNeg)] sh S (gI sh (fun x136 S135 => Sp l m_Md_drift 200 0 0 [.ref m, .int (xs (i3 + (1 : Int32) : Int32).toNatClampNeg), .int (xs (i3 + (2 : Int32) : Int32).toNatClampNeg), .int (xs (i3 + (3 : Int32) : Int32).toNatClampNeg)] sh S135 (gI sh (fun x141 S140 => ((x136 = x141 → AL l b0 L xs ce sl 1619 [.float 0, .ref a, .ref m, .int i3] [] sh S140) ∧ (¬ x136 = x141 → False))))))) : AL l b0 L xs ce sl 1425 [.float 0, .ref a, .ref m, .int i3] [] sh S := by
  refine q_aload_n (pc := 1425) d_law_1425 (x := a) rfl ?_
  refine q_aload_nX (pc := 1426) d_law_1426 (x := 0) rfl ?_
  refine q_iload_n (pc := 1427) d_law_1427 (x := i3) rfl ?_
  refine q_iconst (pc := 1428) d_law_1428 (v := 1) (by decide) ?_
  refine q_iadd (pc := 1429) d_law_1429 ?_
  obtain ⟨g1, h⟩ := h
  refine q_sld (pc := 1430) d_law_1430 g1 ?_
  refine q_aload_nX (pc := 1431) d_law_1431 (x := 0) rfl ?_
  refine q_iload_n (pc := 1432) d_law_1432 (x := i3) rfl ?_
  refine q_iconst (pc := 1433) d_law_1433 (v := 2) (by decide) ?_
  refine q_iadd (pc := 1434) d_law_1434 ?_
  obtain ⟨g91, h⟩ := h
  refine q_sld (pc := 1435) d_law_1435 g91 ?_
  refine q_aload_nX (pc := 1436) d_law_1436 (x := 0) rfl ?_
  refine q_iload_n (pc := 1437) d_law_1437 (x := i3) rfl ?_
  refine q_iconst (pc := 1438) d_law_1438 (v := 3) (by decide) ?_
  refine q_iadd (pc := 1439) d_law_1439 ?_
  obtain ⟨g123, h⟩ := h
  refine q_sld (pc := 1440) d_law_1440 g123 ?_
  refine q_callV (pc := 1441) (k := a) (As := [.int (xs (i3 + (1 : Int32) : Int32).toNatClampNeg), .int (xs (i3 + (2 : Int32) : Int32).toNatClampNeg), .int (xs (i3 + (3 : Int32) : Int32).toNatClampNeg)]) (rest := []) (mc' := 0) (ms' := 0) lk_Lw_180 in_Mg_drift se_Mg_drift sa rfl d_law_1441 k_Mg_drift rfl rfl (Nat.le_of_ble_eq_true rfl) (by omega) (by omega) (Sp.mono h ?_)
  rintro rS135 shS135 S135 ⟨qS135, x136, uS135, h⟩
  subst uS135
  rw [qS135]
  refine q_aload_n (pc := 1444) d_law_1444 (x := m) rfl ?_
  refine q_aload_nX (pc := 1445) d_law_1445 (x := 0) rfl ?_
  refine q_iload_n (pc := 1446) d_law_1446 (x := i3) rfl ?_
  refine q_iconst (pc := 1447) d_law_1447 (v := 1) (by decide) ?_
  refine q_iadd (pc := 1448) d_law_1448 ?_
  refine q_sld (pc := 1449) d_law_1449 g1 ?_
  refine q_aload_nX (pc := 1450) d_law_1450 (x := 0) rfl ?_
  refine q_iload_n (pc := 1451) d_law_1451 (x := i3) rfl ?_
  refine q_iconst (pc := 1452) d_law_1452 (v := 2) (by decide) ?_
  refine q_iadd (pc := 1453) d_law_1453 ?_
  refine q_sld (pc := 1454) d_law_1454 g91 ?_
  refine q_aload_nX (pc := 1455) d_law_1455 (x := 0) rfl ?_
  refine q_iload_n (pc := 1456) d_law_1456 (x := i3) rfl ?_
  refine q_iconst (pc := 1457) d_law_1457 (v := 3) (by decide) ?_
  refine q_iadd (pc := 1458) d_law_1458 ?_
  refine q_sld (pc := 1459) d_law_1459 g123 ?_
  refine q_callV (pc := 1460) (k := m) (As := [.int (xs (i3 + (1 : Int32) : Int32).toNatClampNeg), .int (xs (i3 + (2 : Int32) : Int32).toNatClampNeg), .int (xs (i3 + (3 : Int32) : Int32).toNatClampNeg)]) (rest := [.int x136]) (mc' := 0) (ms' := 0) lk_Lw_183 in_Md_drift se_Md_drift sm rfl d_law_1460 k_Md_drift rfl rfl (Nat.le_of_ble_eq_true rfl) (by omega) (by omega) (Sp.mono h ?_)
  rintro rS140 shS140 S140 ⟨qS140, x141, uS140, h⟩
  subst uS140
  rw [qS140]
  refine q_icmp_eq (pc := 1463) d_law_1463 (tgt := 1619) (by decide) (fun c142 => ?_) (fun c142 => ?_)
  · replace h := h.1 c142
    exact h
  · replace h := h.2 c142
    refine q_iconst (pc := 1466) d_law_1466 (v := 0) (by decide) ?_
    exact h.elim
set_option maxRecDepth 4000 in
theorem s_law_1468 {l : Launch} {b0 L : Nat} {xs : Nat → Int32} {ce sl : Nat} {sh : aw_SH} {S : aw_S} {a m : Nat} {i3 : Int32} (hce : ce ≤ 600000) (hsl : sl ≤ 7302250) (sa : sh[a]? = some (0, 0)) (sm : sh[m]? = some (0, 11)) (h : vp_in (i3 + (1 : Int32)) L ∧ Sp l m_Mg_share 200 0 0 [.ref a, .int (xs (i3 + (1 : Int32) : Int32).toNatClampNeg)] sh S (gI sh (fun x12 S11 => Sp l m_Md_share 200 0 0 [.ref m, .int (xs (i3 + (1 : Int32) : Int32).toNatClampNeg)] sh S11 (gI sh (fun x15 S14 => ((x12 = x15 → AL l b0 L xs ce sl 1619 [.float 0, .ref a, .ref m, .int i3] [] sh S14) ∧ (¬ x12 = x15 → False))))))) : AL l b0 L xs ce sl 1468 [.float 0, .ref a, .ref m, .int i3] [] sh S := by
  refine q_aload_n (pc := 1468) d_law_1468 (x := a) rfl ?_
  refine q_aload_nX (pc := 1469) d_law_1469 (x := 0) rfl ?_
  refine q_iload_n (pc := 1470) d_law_1470 (x := i3) rfl ?_
  refine q_iconst (pc := 1471) d_law_1471 (v := 1) (by decide) ?_
  refine q_iadd (pc := 1472) d_law_1472 ?_
  obtain ⟨g1, h⟩ := h
  refine q_sld (pc := 1473) d_law_1473 g1 ?_
  refine q_callV (pc := 1474) (k := a) (As := [.int (xs (i3 + (1 : Int32) : Int32).toNatClampNeg)]) (rest := []) (mc' := 0) (ms' := 0) lk_Lw_184 in_Mg_share se_Mg_share sa rfl d_law_1474 k_Mg_share rfl rfl (Nat.le_of_ble_eq_true rfl) (by omega) (by omega) (Sp.mono h ?_)
  rintro rS11 shS11 S11 ⟨qS11, x12, uS11, h⟩
  subst uS11
  rw [qS11]
  refine q_aload_n (pc := 1477) d_law_1477 (x := m) rfl ?_
  refine q_aload_nX (pc := 1478) d_law_1478 (x := 0) rfl ?_
  refine q_iload_n (pc := 1479) d_law_1479 (x := i3) rfl ?_
  refine q_iconst (pc := 1480) d_law_1480 (v := 1) (by decide) ?_
  refine q_iadd (pc := 1481) d_law_1481 ?_
  refine q_sld (pc := 1482) d_law_1482 g1 ?_
  refine q_callV (pc := 1483) (k := m) (As := [.int (xs (i3 + (1 : Int32) : Int32).toNatClampNeg)]) (rest := [.int x12]) (mc' := 0) (ms' := 0) lk_Lw_188 in_Md_share se_Md_share sm rfl d_law_1483 k_Md_share rfl rfl (Nat.le_of_ble_eq_true rfl) (by omega) (by omega) (Sp.mono h ?_)
  rintro rS14 shS14 S14 ⟨qS14, x15, uS14, h⟩
  subst uS14
  rw [qS14]
  refine q_icmp_eq (pc := 1486) d_law_1486 (tgt := 1619) (by decide) (fun c16 => ?_) (fun c16 => ?_)
  · replace h := h.1 c16
    exact h
  · replace h := h.2 c16
    refine q_iconst (pc := 1489) d_law_1489 (v := 0) (by decide) ?_
    exact h.elim
set_option maxRecDepth 4000 in
theorem s_law_1491 {l : Launch} {b0 L : Nat} {xs : Nat → Int32} {ce sl : Nat} {sh : aw_SH} {S : aw_S} {a m : Nat} {i3 : Int32} (hce : ce ≤ 600000) (hsl : sl ≤ 7302250) (sa : sh[a]? = some (0, 0)) (sm : sh[m]? = some (0, 11)) (h : vp_in (i3 + (1 : Int32)) L ∧ Sp l m_Mg_copyShows 200 0 0 [.ref a, .int (xs (i3 + (1 : Int32) : Int32).toNatClampNeg)] sh S (gI sh (fun x12 S11 => Sp l m_Md_copyShows 200 0 0 [.ref m, .int (xs (i3 + (1 : Int32) : Int32).toNatClampNeg)] sh S11 (gI sh (fun x15 S14 => ((x12 = x15 → AL l b0 L xs ce sl 1619 [.float 0, .ref a, .ref m, .int i3] [] sh S14) ∧ (¬ x12 = x15 → False))))))) : AL l b0 L xs ce sl 1491 [.float 0, .ref a, .ref m, .int i3] [] sh S := by
  refine q_aload_n (pc := 1491) d_law_1491 (x := a) rfl ?_
  refine q_aload_nX (pc := 1492) d_law_1492 (x := 0) rfl ?_
  refine q_iload_n (pc := 1493) d_law_1493 (x := i3) rfl ?_
  refine q_iconst (pc := 1494) d_law_1494 (v := 1) (by decide) ?_
  refine q_iadd (pc := 1495) d_law_1495 ?_
  obtain ⟨g1, h⟩ := h
  refine q_sld (pc := 1496) d_law_1496 g1 ?_
  refine q_callV (pc := 1497) (k := a) (As := [.int (xs (i3 + (1 : Int32) : Int32).toNatClampNeg)]) (rest := []) (mc' := 0) (ms' := 0) lk_Lw_189 in_Mg_copyShows se_Mg_copyShows sa rfl d_law_1497 k_Mg_copyShows rfl rfl (Nat.le_of_ble_eq_true rfl) (by omega) (by omega) (Sp.mono h ?_)
  rintro rS11 shS11 S11 ⟨qS11, x12, uS11, h⟩
  subst uS11
  rw [qS11]
  refine q_aload_n (pc := 1500) d_law_1500 (x := m) rfl ?_
  refine q_aload_nX (pc := 1501) d_law_1501 (x := 0) rfl ?_
  refine q_iload_n (pc := 1502) d_law_1502 (x := i3) rfl ?_
  refine q_iconst (pc := 1503) d_law_1503 (v := 1) (by decide) ?_
  refine q_iadd (pc := 1504) d_law_1504 ?_
  refine q_sld (pc := 1505) d_law_1505 g1 ?_
  refine q_callV (pc := 1506) (k := m) (As := [.int (xs (i3 + (1 : Int32) : Int32).toNatClampNeg)]) (rest := [.int x12]) (mc' := 0) (ms' := 0) lk_Lw_192 in_Md_copyShows se_Md_copyShows sm rfl d_law_1506 k_Md_copyShows rfl rfl (Nat.le_of_ble_eq_true rfl) (by omega) (by omega) (Sp.mono h ?_)
  rintro rS14 shS14 S14 ⟨qS14, x15, uS14, h⟩
  subst uS14
  rw [qS14]
  refine q_icmp_eq (pc := 1509) d_law_1509 (tgt := 1619) (by decide) (fun c16 => ?_) (fun c16 => ?_)
  · replace h := h.1 c16
    exact h
  · replace h := h.2 c16
    refine q_iconst (pc := 1512) d_law_1512 (v := 0) (by decide) ?_
    exact h.elim
set_option maxRecDepth 4000 in
theorem s_law_1514 {l : Launch} {b0 L : Nat} {xs : Nat → Int32} {ce sl : Nat} {sh : aw_SH} {S : aw_S} {a m : Nat} {i3 : Int32} (hce : ce ≤ 600000) (hsl : sl ≤ 7302250) (sa : sh[a]? = some (0, 0)) (sm : sh[m]? = some (0, 11)) (h : vp_in (i3 + (1 : Int32)) L ∧ Sp l m_Mg_live 200 0 0 [.ref a, .int (xs (i3 + (1 : Int32) : Int32).toNatClampNeg)] sh S (gI sh (fun x12 S11 => Sp l m_Md_live 200 0 0 [.ref m, .int (xs (i3 + (1 : Int32) : Int32).toNatClampNeg)] sh S11 (gI sh (fun x15 S14 => ((x12 = x15 → AL l b0 L xs ce sl 1619 [.float 0, .ref a, .ref m, .int i3] [] sh S14) ∧ (¬ x12 = x15 → False))))))) : AL l b0 L xs ce sl 1514 [.float 0, .ref a, .ref m, .int i3] [] sh S := by
  refine q_aload_n (pc := 1514) d_law_1514 (x := a) rfl ?_
  refine q_aload_nX (pc := 1515) d_law_1515 (x := 0) rfl ?_
  refine q_iload_n (pc := 1516) d_law_1516 (x := i3) rfl ?_
  refine q_iconst (pc := 1517) d_law_1517 (v := 1) (by decide) ?_
  refine q_iadd (pc := 1518) d_law_1518 ?_
  obtain ⟨g1, h⟩ := h
  refine q_sld (pc := 1519) d_law_1519 g1 ?_
  refine q_callV (pc := 1520) (k := a) (As := [.int (xs (i3 + (1 : Int32) : Int32).toNatClampNeg)]) (rest := []) (mc' := 0) (ms' := 0) lk_Lw_193 in_Mg_live se_Mg_live sa rfl d_law_1520 k_Mg_live rfl rfl (Nat.le_of_ble_eq_true rfl) (by omega) (by omega) (Sp.mono h ?_)
  rintro rS11 shS11 S11 ⟨qS11, x12, uS11, h⟩
  subst uS11
  rw [qS11]
  refine q_aload_n (pc := 1523) d_law_1523 (x := m) rfl ?_
  refine q_aload_nX (pc := 1524) d_law_1524 (x := 0) rfl ?_
  refine q_iload_n (pc := 1525) d_law_1525 (x := i3) rfl ?_
  refine q_iconst (pc := 1526) d_law_1526 (v := 1) (by decide) ?_
  refine q_iadd (pc := 1527) d_law_1527 ?_
  refine q_sld (pc := 1528) d_law_1528 g1 ?_
  refine q_callV (pc := 1529) (k := m) (As := [.int (xs (i3 + (1 : Int32) : Int32).toNatClampNeg)]) (rest := [.int x12]) (mc' := 0) (ms' := 0) lk_Lw_196 in_Md_live se_Md_live sm rfl d_law_1529 k_Md_live rfl rfl (Nat.le_of_ble_eq_true rfl) (by omega) (by omega) (Sp.mono h ?_)
  rintro rS14 shS14 S14 ⟨qS14, x15, uS14, h⟩
  subst uS14
  rw [qS14]
  refine q_icmp_eq (pc := 1532) d_law_1532 (tgt := 1619) (by decide) (fun c16 => ?_) (fun c16 => ?_)
  · replace h := h.1 c16
    exact h
  · replace h := h.2 c16
    refine q_iconst (pc := 1535) d_law_1535 (v := 0) (by decide) ?_
    exact h.elim
set_option maxRecDepth 4000 in
theorem s_law_1537 {l : Launch} {b0 L : Nat} {xs : Nat → Int32} {ce sl : Nat} {sh : aw_SH} {S : aw_S} {a m : Nat} {i3 : Int32} (hce : ce ≤ 600000) (hsl : sl ≤ 7302250) (sa : sh[a]? = some (0, 0)) (sm : sh[m]? = some (0, 11)) (h : vp_in (i3 + (1 : Int32)) L ∧ Sp l m_Mg_lived 200 0 0 [.ref a, .int (xs (i3 + (1 : Int32) : Int32).toNatClampNeg)] sh S (gI sh (fun x12 S11 => Sp l m_Md_lived 200 0 0 [.ref m, .int (xs (i3 + (1 : Int32) : Int32).toNatClampNeg)] sh S11 (gI sh (fun x15 S14 => ((x12 = x15 → AL l b0 L xs ce sl 1619 [.float 0, .ref a, .ref m, .int i3] [] sh S14) ∧ (¬ x12 = x15 → False))))))) : AL l b0 L xs ce sl 1537 [.float 0, .ref a, .ref m, .int i3] [] sh S := by
  refine q_aload_n (pc := 1537) d_law_1537 (x := a) rfl ?_
  refine q_aload_nX (pc := 1538) d_law_1538 (x := 0) rfl ?_
  refine q_iload_n (pc := 1539) d_law_1539 (x := i3) rfl ?_
  refine q_iconst (pc := 1540) d_law_1540 (v := 1) (by decide) ?_
  refine q_iadd (pc := 1541) d_law_1541 ?_
  obtain ⟨g1, h⟩ := h
  refine q_sld (pc := 1542) d_law_1542 g1 ?_
  refine q_callV (pc := 1543) (k := a) (As := [.int (xs (i3 + (1 : Int32) : Int32).toNatClampNeg)]) (rest := []) (mc' := 0) (ms' := 0) lk_Lw_197 in_Mg_lived se_Mg_lived sa rfl d_law_1543 k_Mg_lived rfl rfl (Nat.le_of_ble_eq_true rfl) (by omega) (by omega) (Sp.mono h ?_)
  rintro rS11 shS11 S11 ⟨qS11, x12, uS11, h⟩
  subst uS11
  rw [qS11]
  refine q_aload_n (pc := 1546) d_law_1546 (x := m) rfl ?_
  refine q_aload_nX (pc := 1547) d_law_1547 (x := 0) rfl ?_
  refine q_iload_n (pc := 1548) d_law_1548 (x := i3) rfl ?_
  refine q_iconst (pc := 1549) d_law_1549 (v := 1) (by decide) ?_
  refine q_iadd (pc := 1550) d_law_1550 ?_
  refine q_sld (pc := 1551) d_law_1551 g1 ?_
  refine q_callV (pc := 1552) (k := m) (As := [.int (xs (i3 + (1 : Int32) : Int32).toNatClampNeg)]) (rest := [.int x12]) (mc' := 0) (ms' := 0) lk_Lw_200 in_Md_lived se_Md_lived sm rfl d_law_1552 k_Md_lived rfl rfl (Nat.le_of_ble_eq_true rfl) (by omega) (by omega) (Sp.mono h ?_)
  rintro rS14 shS14 S14 ⟨qS14, x15, uS14, h⟩
  subst uS14
  rw [qS14]
  refine q_icmp_eq (pc := 1555) d_law_1555 (tgt := 1619) (by decide) (fun c16 => ?_) (fun c16 => ?_)
  · replace h := h.1 c16
    exact h
  · replace h := h.2 c16
    refine q_iconst (pc := 1558) d_law_1558 (v := 0) (by decide) ?_
    exact h.elim
set_option maxRecDepth 4000 in
theorem s_law_1560 {l : Launch} {b0 L : Nat} {xs : Nat → Int32} {ce sl : Nat} {sh : aw_SH} {S : aw_S} {a m : Nat} {i3 : Int32} (hce : ce ≤ 600000) (hsl : sl ≤ 7302250) (sa : sh[a]? = some (0, 0)) (sm : sh[m]? = some (0, 11)) (h : vp_in (i3 + (1 : Int32)) L ∧ vp_in (i3 + (2 : Int32)) L ∧ Sp l m_Mg_mean 200 0 0 [.ref a, .int (xs (i3 + (1 : Int32) : Int32).toNatClampNeg), .int (xs (i3 + (2 : Int32) : Int32).toNatClampNeg)] sh S (gI sh (fun x43 S42 => Sp l m_Md_mean 200 0 0 [.ref m, .int (xs (i3 + (1 : Int32) : Int32).toNatClampNeg), .int (xs (i3 + (2 : Int32) : Int32).toNatClampNeg)] sh S42 (gI sh (fun x47 S46 => ((x43 = x47 → AL l b0 L xs ce sl 1619 [.float 0, .ref a, .ref m, .int i3] [] sh S46) ∧ (¬ x43 = x47 → False))))))) : AL l b0 L xs ce sl 1560 [.float 0, .ref a, .ref m, .int i3] [] sh S := by
  refine q_aload_n (pc := 1560) d_law_1560 (x := a) rfl ?_
  refine q_aload_nX (pc := 1561) d_law_1561 (x := 0) rfl ?_
  refine q_iload_n (pc := 1562) d_law_1562 (x := i3) rfl ?_
  refine q_iconst (pc := 1563) d_law_1563 (v := 1) (by decide) ?_
  refine q_iadd (pc := 1564) d_law_1564 ?_
  obtain ⟨g1, h⟩ := h
  refine q_sld (pc := 1565) d_law_1565 g1 ?_
  refine q_aload_nX (pc := 1566) d_law_1566 (x := 0) rfl ?_
  refine q_iload_n (pc := 1567) d_law_1567 (x := i3) rfl ?_
  refine q_iconst (pc := 1568) d_law_1568 (v := 2) (by decide) ?_
  refine q_iadd (pc := 1569) d_law_1569 ?_
  obtain ⟨g31, h⟩ := h
  refine q_sld (pc := 1570) d_law_1570 g31 ?_
  refine q_callV (pc := 1571) (k := a) (As := [.int (xs (i3 + (1 : Int32) : Int32).toNatClampNeg), .int (xs (i3 + (2 : Int32) : Int32).toNatClampNeg)]) (rest := []) (mc' := 0) (ms' := 0) lk_Lw_201 in_Mg_mean se_Mg_mean sa rfl d_law_1571 k_Mg_mean rfl rfl (Nat.le_of_ble_eq_true rfl) (by omega) (by omega) (Sp.mono h ?_)
  rintro rS42 shS42 S42 ⟨qS42, x43, uS42, h⟩
  subst uS42
  rw [qS42]
  refine q_aload_n (pc := 1574) d_law_1574 (x := m) rfl ?_
  refine q_aload_nX (pc := 1575) d_law_1575 (x := 0) rfl ?_
  refine q_iload_n (pc := 1576) d_law_1576 (x := i3) rfl ?_
  refine q_iconst (pc := 1577) d_law_1577 (v := 1) (by decide) ?_
  refine q_iadd (pc := 1578) d_law_1578 ?_
  refine q_sld (pc := 1579) d_law_1579 g1 ?_
  refine q_aload_nX (pc := 1580) d_law_1580 (x := 0) rfl ?_
  refine q_iload_n (pc := 1581) d_law_1581 (x := i3) rfl ?_
  refine q_iconst (pc := 1582) d_law_1582 (v := 2) (by decide) ?_
  refine q_iadd (pc := 1583) d_law_1583 ?_
  refine q_sld (pc := 1584) d_law_1584 g31 ?_
  refine q_callV (pc := 1585) (k := m) (As := [.int (xs (i3 + (1 : Int32) : Int32).toNatClampNeg), .int (xs (i3 + (2 : Int32) : Int32).toNatClampNeg)]) (rest := [.int x43]) (mc' := 0) (ms' := 0) lk_Lw_204 in_Md_mean se_Md_mean sm rfl d_law_1585 k_Md_mean rfl rfl (Nat.le_of_ble_eq_true rfl) (by omega) (by omega) (Sp.mono h ?_)
  rintro rS46 shS46 S46 ⟨qS46, x47, uS46, h⟩
  subst uS46
  rw [qS46]
  refine q_icmp_eq (pc := 1588) d_law_1588 (tgt := 1619) (by decide) (fun c48 => ?_) (fun c48 => ?_)
  · replace h := h.1 c48
    exact h
  · replace h := h.2 c48
    refine q_iconst (pc := 1591) d_law_1591 (v := 0) (by decide) ?_
    exact h.elim
set_option maxRecDepth 4000 in
theorem s_law_1593 {l : Launch} {b0 L : Nat} {xs : Nat → Int32} {ce sl : Nat} {sh : aw_SH} {S : aw_S} {a m : Nat} {i3 : Int32} (hce : ce ≤ 600000) (hsl : sl ≤ 7302250) (sa : sh[a]? = some (0, 0)) (sm : sh[m]? = some (0, 11)) (h : Sp l m_Mg_mark 200 0 0 [.ref a] sh S (gI sh (fun x2 S1 => Sp l m_Md_mark 200 0 0 [.ref m] sh S1 (gI sh (fun x4 S3 => ((x2 = x4 → AL l b0 L xs ce sl 1619 [.float 0, .ref a, .ref m, .int i3] [] sh S3) ∧ (¬ x2 = x4 → False))))))) : AL l b0 L xs ce sl 1593 [.float 0, .ref a, .ref m, .int i3] [] sh S := by
  refine q_aload_n (pc := 1593) d_law_1593 (x := a) rfl ?_
  refine q_callV (pc := 1594) (k := a) (As := []) (rest := []) (mc' := 0) (ms' := 0) lk_Lw_205 in_Mg_mark se_Mg_mark sa rfl d_law_1594 k_Mg_mark rfl rfl (Nat.le_of_ble_eq_true rfl) (by omega) (by omega) (Sp.mono h ?_)
  rintro rS1 shS1 S1 ⟨qS1, x2, uS1, h⟩
  subst uS1
  rw [qS1]
  refine q_aload_n (pc := 1597) d_law_1597 (x := m) rfl ?_
  refine q_callV (pc := 1598) (k := m) (As := []) (rest := [.int x2]) (mc' := 0) (ms' := 0) lk_Lw_208 in_Md_mark se_Md_mark sm rfl d_law_1598 k_Md_mark rfl rfl (Nat.le_of_ble_eq_true rfl) (by omega) (by omega) (Sp.mono h ?_)
  rintro rS3 shS3 S3 ⟨qS3, x4, uS3, h⟩
  subst uS3
  rw [qS3]
  refine q_icmp_eq (pc := 1601) d_law_1601 (tgt := 1619) (by decide) (fun c5 => ?_) (fun c5 => ?_)
  · replace h := h.1 c5
    exact h
  · replace h := h.2 c5
    refine q_iconst (pc := 1604) d_law_1604 (v := 0) (by decide) ?_
    exact h.elim
set_option maxRecDepth 4000 in
theorem s_law_1606 {l : Launch} {b0 L : Nat} {xs : Nat → Int32} {ce sl : Nat} {sh : aw_SH} {S : aw_S} {a m : Nat} {i3 : Int32} (hce : ce ≤ 600000) (hsl : sl ≤ 7302250) (sa : sh[a]? = some (0, 0)) (sm : sh[m]? = some (0, 11)) (h : Sp l m_Mg_undo 200 0 0 [.ref a] sh S (gI sh (fun x2 S1 => Sp l m_Md_undo 200 0 0 [.ref m] sh S1 (gI sh (fun x4 S3 => ((x2 = x4 → AL l b0 L xs ce sl 1619 [.float 0, .ref a, .ref m, .int i3] [] sh S3) ∧ (¬ x2 = x4 → False))))))) : AL l b0 L xs ce sl 1606 [.float 0, .ref a, .ref m, .int i3] [] sh S := by
  refine q_aload_n (pc := 1606) d_law_1606 (x := a) rfl ?_
  refine q_callV (pc := 1607) (k := a) (As := []) (rest := []) (mc' := 0) (ms' := 0) lk_Lw_209 in_Mg_undo se_Mg_undo sa rfl d_law_1607 k_Mg_undo rfl rfl (Nat.le_of_ble_eq_true rfl) (by omega) (by omega) (Sp.mono h ?_)
  rintro rS1 shS1 S1 ⟨qS1, x2, uS1, h⟩
  subst uS1
  rw [qS1]
  refine q_aload_n (pc := 1610) d_law_1610 (x := m) rfl ?_
  refine q_callV (pc := 1611) (k := m) (As := []) (rest := [.int x2]) (mc' := 0) (ms' := 0) lk_Lw_212 in_Md_undo se_Md_undo sm rfl d_law_1611 k_Md_undo rfl rfl (Nat.le_of_ble_eq_true rfl) (by omega) (by omega) (Sp.mono h ?_)
  rintro rS3 shS3 S3 ⟨qS3, x4, uS3, h⟩
  subst uS3
  rw [qS3]
  refine q_icmp_eq (pc := 1614) d_law_1614 (tgt := 1619) (by decide) (fun c5 => ?_) (fun c5 => ?_)
  · replace h := h.1 c5
    exact h
  · replace h := h.2 c5
    refine q_iconst (pc := 1617) d_law_1617 (v := 0) (by decide) ?_
    exact h.elim
set_option maxRecDepth 4000 in
theorem s_law_1619 {l : Launch} {b0 L : Nat} {xs : Nat → Int32} {ce sl : Nat} {sh : aw_SH} {S : aw_S} {a m : Nat} {i3 : Int32} (hce : ce ≤ 600000) (hsl : sl ≤ 7302250) (sa : sh[a]? = some (0, 0)) (sm : sh[m]? = some (0, 11)) (h : AL l b0 L xs ce sl 18 [.float 0, .ref a, .ref m, .int (i3 + 6)] [] sh S) : AL l b0 L xs ce sl 1619 [.float 0, .ref a, .ref m, .int i3] [] sh S := by
  refine q_iinc (pc := 1619) d_law_1619 (hi := by decide) (x := i3) rfl (v := i3 + 6) rfl (ls2 := [.float 0, .ref a, .ref m, .int (i3 + 6)]) rfl ?_
  refine q_goto (pc := 1622) d_law_1622 (tgt := 18) (by decide) ?_
  exact h
