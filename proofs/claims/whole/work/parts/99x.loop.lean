section LX
variable {X : HM} {EV : Nat → Value} {d : Nat} {B t m b L k cu su : Nat} {f : Nat → Int32} {Q : QT} {hm : HM} {hs : Nat}
theorem lw_le (hk : k ≤ 1000) (hL : L ≤ 3072) : (nI L - 6 < nI (6 * k)) = ¬ 6 * k + 6 ≤ L := by
  have e : (nI L - 6).toInt = (L : Int) - 6 := by
    rw [Int32.toInt_sub, nI_toInt (by omega)]
    have e6 : (6 : Int32).toInt = 6 := by decide
    rw [e6]
    exact Int.bmod_eq_of_le (by omega) (by omega)
  rw [Int32.lt_iff_toInt_lt, e, nI_toInt (by omega)]
  exact propext ⟨fun h => by omega, fun h => by omega⟩
theorem law_loop (hK : KW X EV B) (hY : KY X EV B) (hX : XT X EV B) (hbB : b < B) (hXb : X b = some (ia L f)) (hL : L ≤ 3072) (hQ : ∀ hm hs, Q (some (.int 1)) hm hs) : ∀ r k, k + r = 513 → ∀ hm hs cu su, INV B t m hm hs → cu ≤ 1000 + k → su ≤ 100000 + 13 * k → E1 X EV (d + 19) 11 600000 7302250 (some .boolean) false cL_law Q 18 [.ref b, .ref t, .ref m, .int (nI (6 * k))] [] cu su hm hs := by
  intro r
  induction r with
  | zero =>
    intro k hkr hm hs cu su hI hcu hsu
    obtain ⟨hT, hlw⟩ := inv_lw hI
    have hrd : im_rd X hm b = some (ia L f) := by rw [rd_ext (hlw.1.1 b hbB)]; exact hXb
    simp (disch := first | omega | (simp only [List.length_cons, List.length_nil]; omega)) only [r_il3 dL_law_18, r_al0 dL_law_19, r_alen dL_law_20, r_bipush dL_law_21 kb6, r_isub dL_law_23, r_ic_gtB (tgt := 1426) dL_law_24 rfl, r_al0 dL_law_27, r_il3 dL_law_28, r_iald dL_law_29, r_bipush dL_law_30 kb63, r_iand dL_law_32, List.cons_append, List.nil_append, Nat.reduceAdd, Option.toList, aI_ok, aN_ok, z0, hrd, lw_le (show k ≤ 1000 by omega) hL]
    refine ⟨fun _ => ?_, fun z => absurd (by omega) z⟩
    try simp (disch := omega) only [E2, nI_1, nI_add, nI_leI, nI_ltI, nI_eq, nI_clamp]
    simp (disch := first | omega | (simp only [List.length_cons, List.length_nil]; omega)) only [r_iconst dL_law_1426 ki1, r_zret0 dL_law_1427, r_zret1 dL_law_1427, r_zretc dL_law_1427, List.cons_append, List.nil_append, Nat.reduceAdd, Option.toList, z0]
    exact hQ hm hs
  | succ r ih =>
    intro k hkr hm hs cu su hI hcu hsu
    obtain ⟨hT, hlw⟩ := inv_lw hI
    have hrd : im_rd X hm b = some (ia L f) := by rw [rd_ext (hlw.1.1 b hbB)]; exact hXb
    by_cases hk : 6 * k + 6 ≤ L
    case neg =>
      simp (disch := first | omega | (simp only [List.length_cons, List.length_nil]; omega)) only [r_il3 dL_law_18, r_al0 dL_law_19, r_alen dL_law_20, r_bipush dL_law_21 kb6, r_isub dL_law_23, r_ic_gtB (tgt := 1426) dL_law_24 rfl, r_al0 dL_law_27, r_il3 dL_law_28, r_iald dL_law_29, r_bipush dL_law_30 kb63, r_iand dL_law_32, List.cons_append, List.nil_append, Nat.reduceAdd, Option.toList, aI_ok, aN_ok, z0, hrd, lw_le (show k ≤ 1000 by omega) hL]
      refine ⟨fun _ => ?_, fun z => absurd hk z⟩
      try simp (disch := omega) only [E2, nI_1, nI_add, nI_leI, nI_ltI, nI_eq, nI_clamp]
      simp (disch := first | omega | (simp only [List.length_cons, List.length_nil]; omega)) only [r_iconst dL_law_1426 ki1, r_zret0 dL_law_1427, r_zret1 dL_law_1427, r_zretc dL_law_1427, List.cons_append, List.nil_append, Nat.reduceAdd, Option.toList, z0]
      exact hQ hm hs
    have w0 : vp_in (nI (6 * k)) L = True := eq_true (vp_in_nI (by omega) (by omega))
    have hN : ∀ hm2 hs2 cu2 su2, INV B t m hm2 hs2 → cu2 ≤ cu + 1 → su2 ≤ su + 13 → E1 X EV (d + 19) 11 600000 7302250 (some .boolean) false cL_law Q 1420 [.ref b, .ref t, .ref m, .int (nI (6 * k))] [] cu2 su2 hm2 hs2 := by
      intro hm2 hs2 cu2 su2 hI2 h1 h2
      have e6 : nI (6 * k) + 6 = nI (6 * (k + 1)) := nI_add _ 6
      simp (disch := first | omega | (simp only [List.length_cons, List.length_nil]; omega)) only [r_ii3 dL_law_1420 kn6, r_gotoB (tgt := 18) dL_law_1423 rfl, List.cons_append, List.nil_append, Nat.reduceAdd, Option.toList, cat_f, cat_i, cat_n, cat_r, eq_self, true_and, z0, e6]
      try simp (disch := omega) only [E2, nI_1, nI_add, nI_leI, nI_ltI, nI_eq, nI_clamp]
      exact ih (k + 1) (by omega) hm2 hs2 cu2 su2 hI2 (by omega) (by omega)
    simp (disch := first | omega | (simp only [List.length_cons, List.length_nil]; omega)) only [r_il3 dL_law_18, r_al0 dL_law_19, r_alen dL_law_20, r_bipush dL_law_21 kb6, r_isub dL_law_23, r_ic_gtB (tgt := 1426) dL_law_24 rfl, r_al0 dL_law_27, r_il3 dL_law_28, r_iald dL_law_29, r_bipush dL_law_30 kb63, r_iand dL_law_32, List.cons_append, List.nil_append, Nat.reduceAdd, Option.toList, aI_ok, aN_ok, z0, hrd, lw_le (show k ≤ 1000 by omega) hL, w0, nI_clamp (show 6 * k < 2 ^ 31 by omega), true_and]
    refine ⟨fun z => absurd hk z, fun _ => ?_⟩
    generalize f (6 * k) &&& 63 = wh
    rcases sw_case (n := 41) wh (by omega) with hsw | ⟨j, hj, rfl⟩
    · rw [r_tsOut (tgt := 1420) dL_law_33 hsw rfl]
      exact hN hm hs cu su hI (by omega) (by omega)
    · match j, hj with
      | 0, _ =>
        rw [r_tsIn (tgt := 212) (off := 179) dL_law_33 (by decide) (by decide) rfl rfl]
        exact law_c0 hI hK hY hX hbB hXb hk hL (by omega) (by omega) hN
      | 1, _ =>
        rw [r_tsIn (tgt := 275) (off := 242) dL_law_33 (by decide) (by decide) rfl rfl]
        exact law_c1 hI hK hY hX hbB hXb hk hL (by omega) (by omega) hN
      | 2, _ =>
        rw [r_tsIn (tgt := 298) (off := 265) dL_law_33 (by decide) (by decide) rfl rfl]
        exact law_c2 hI hK hY hX hbB hXb hk hL (by omega) (by omega) hN
      | 3, _ =>
        rw [r_tsIn (tgt := 321) (off := 288) dL_law_33 (by decide) (by decide) rfl rfl]
        exact law_c3 hI hK hY hX hbB hXb hk hL (by omega) (by omega) hN
      | 4, _ =>
        rw [r_tsIn (tgt := 354) (off := 321) dL_law_33 (by decide) (by decide) rfl rfl]
        exact law_c4 hI hK hY hX hbB hXb hk hL (by omega) (by omega) hN
      | 5, _ =>
        rw [r_tsIn (tgt := 387) (off := 354) dL_law_33 (by decide) (by decide) rfl rfl]
        exact law_c5 hI hK hY hX hbB hXb hk hL (by omega) (by omega) hN
      | 6, _ =>
        rw [r_tsIn (tgt := 420) (off := 387) dL_law_33 (by decide) (by decide) rfl rfl]
        exact law_c6 hI hK hY hX hbB hXb hk hL (by omega) (by omega) hN
      | 7, _ =>
        rw [r_tsIn (tgt := 453) (off := 420) dL_law_33 (by decide) (by decide) rfl rfl]
        exact law_c7 hI hK hY hX hbB hXb hk hL (by omega) (by omega) hN
      | 8, _ =>
        rw [r_tsIn (tgt := 466) (off := 433) dL_law_33 (by decide) (by decide) rfl rfl]
        exact law_c8 hI hK hY hX hbB hXb hk hL (by omega) (by omega) hN
      | 9, _ =>
        rw [r_tsIn (tgt := 499) (off := 466) dL_law_33 (by decide) (by decide) rfl rfl]
        exact law_c9 hI hK hY hX hbB hXb hk hL (by omega) (by omega) hN
      | 10, _ =>
        rw [r_tsIn (tgt := 532) (off := 499) dL_law_33 (by decide) (by decide) rfl rfl]
        exact law_c10 hI hK hY hX hbB hXb hk hL (by omega) (by omega) hN
      | 11, _ =>
        rw [r_tsIn (tgt := 555) (off := 522) dL_law_33 (by decide) (by decide) rfl rfl]
        exact law_c11 hI hK hY hX hbB hXb hk hL (by omega) (by omega) hN
      | 12, _ =>
        rw [r_tsIn (tgt := 578) (off := 545) dL_law_33 (by decide) (by decide) rfl rfl]
        exact law_c12 hI hK hY hX hbB hXb hk hL (by omega) (by omega) hN
      | 13, _ =>
        rw [r_tsIn (tgt := 592) (off := 559) dL_law_33 (by decide) (by decide) rfl rfl]
        exact law_c13 hI hK hY hX hbB hXb hk hL (by omega) (by omega) hN
      | 14, _ =>
        rw [r_tsIn (tgt := 626) (off := 593) dL_law_33 (by decide) (by decide) rfl rfl]
        exact law_c14 hI hK hY hX hbB hXb hk hL (by omega) (by omega) hN
      | 15, _ =>
        rw [r_tsIn (tgt := 639) (off := 606) dL_law_33 (by decide) (by decide) rfl rfl]
        exact law_c15 hI hK hY hX hbB hXb hk hL (by omega) (by omega) hN
      | 16, _ =>
        rw [r_tsIn (tgt := 652) (off := 619) dL_law_33 (by decide) (by decide) rfl rfl]
        exact law_c16 hI hK hY hX hbB hXb hk hL (by omega) (by omega) hN
      | 17, _ =>
        rw [r_tsIn (tgt := 685) (off := 652) dL_law_33 (by decide) (by decide) rfl rfl]
        exact law_c17 hI hK hY hX hbB hXb hk hL (by omega) (by omega) hN
      | 18, _ =>
        rw [r_tsIn (tgt := 718) (off := 685) dL_law_33 (by decide) (by decide) rfl rfl]
        exact law_c18 hI hK hY hX hbB hXb hk hL (by omega) (by omega) hN
      | 19, _ =>
        rw [r_tsIn (tgt := 751) (off := 718) dL_law_33 (by decide) (by decide) rfl rfl]
        exact law_c19 hI hK hY hX hbB hXb hk hL (by omega) (by omega) hN
      | 20, _ =>
        rw [r_tsIn (tgt := 774) (off := 741) dL_law_33 (by decide) (by decide) rfl rfl]
        exact law_c20 hI hK hY hX hbB hXb hk hL (by omega) (by omega) hN
      | 21, _ =>
        rw [r_tsIn (tgt := 797) (off := 764) dL_law_33 (by decide) (by decide) rfl rfl]
        exact law_c21 hI hK hY hX hbB hXb hk hL (by omega) (by omega) hN
      | 22, _ =>
        rw [r_tsIn (tgt := 830) (off := 797) dL_law_33 (by decide) (by decide) rfl rfl]
        exact law_c22 hI hK hY hX hbB hXb hk hL (by omega) (by omega) hN
      | 23, _ =>
        rw [r_tsIn (tgt := 853) (off := 820) dL_law_33 (by decide) (by decide) rfl rfl]
        exact law_c23 hI hK hY hX hbB hXb hk hL (by omega) (by omega) hN
      | 24, _ =>
        rw [r_tsIn (tgt := 886) (off := 853) dL_law_33 (by decide) (by decide) rfl rfl]
        exact law_c24 hI hK hY hX hbB hXb hk hL (by omega) (by omega) hN
      | 25, _ =>
        rw [r_tsIn (tgt := 909) (off := 876) dL_law_33 (by decide) (by decide) rfl rfl]
        exact law_c25 hI hK hY hX hbB hXb hk hL (by omega) (by omega) hN
      | 26, _ =>
        rw [r_tsIn (tgt := 932) (off := 899) dL_law_33 (by decide) (by decide) rfl rfl]
        exact law_c26 hI hK hY hX hbB hXb hk hL (by omega) (by omega) hN
      | 27, _ =>
        rw [r_tsIn (tgt := 965) (off := 932) dL_law_33 (by decide) (by decide) rfl rfl]
        exact law_c27 hI hK hY hX hbB hXb hk hL (by omega) (by omega) hN
      | 28, _ =>
        rw [r_tsIn (tgt := 989) (off := 956) dL_law_33 (by decide) (by decide) rfl rfl]
        exact law_c28 hI hK hY hX hbB hXb hk hL (by omega) (by omega) hN
      | 29, _ =>
        rw [r_tsIn (tgt := 1012) (off := 979) dL_law_33 (by decide) (by decide) rfl rfl]
        exact law_c29 hI hK hY hX hbB hXb hk hL (by omega) (by omega) hN
      | 30, _ =>
        rw [r_tsIn (tgt := 1025) (off := 992) dL_law_33 (by decide) (by decide) rfl rfl]
        exact law_c30 hI hK hY hX hbB hXb hk hL (by omega) (by omega) hN
      | 31, _ =>
        rw [r_tsIn (tgt := 1058) (off := 1025) dL_law_33 (by decide) (by decide) rfl rfl]
        exact law_c31 hI hK hY hX hbB hXb hk hL (by omega) (by omega) hN
      | 32, _ =>
        rw [r_tsIn (tgt := 1092) (off := 1059) dL_law_33 (by decide) (by decide) rfl rfl]
        exact law_c32 hI hK hY hX hbB hXb hk hL (by omega) (by omega) hN
      | 33, _ =>
        rw [r_tsIn (tgt := 1125) (off := 1092) dL_law_33 (by decide) (by decide) rfl rfl]
        exact law_c33 hI hK hY hX hbB hXb hk hL (by omega) (by omega) hN
      | 34, _ =>
        rw [r_tsIn (tgt := 1158) (off := 1125) dL_law_33 (by decide) (by decide) rfl rfl]
        exact law_c34 hI hK hY hX hbB hXb hk hL (by omega) (by omega) hN
      | 35, _ =>
        rw [r_tsIn (tgt := 1191) (off := 1158) dL_law_33 (by decide) (by decide) rfl rfl]
        exact law_c35 hI hK hY hX hbB hXb hk hL (by omega) (by omega) hN
      | 36, _ =>
        rw [r_tsIn (tgt := 1234) (off := 1201) dL_law_33 (by decide) (by decide) rfl rfl]
        exact law_c36 hI hK hY hX hbB hXb hk hL (by omega) (by omega) hN
      | 37, _ =>
        rw [r_tsIn (tgt := 1277) (off := 1244) dL_law_33 (by decide) (by decide) rfl rfl]
        exact law_c37 hI hK hY hX hbB hXb hk hL (by omega) (by omega) hN
      | 38, _ =>
        rw [r_tsIn (tgt := 1340) (off := 1307) dL_law_33 (by decide) (by decide) rfl rfl]
        exact law_c38 hI hK hY hX hbB hXb hk hL (by omega) (by omega) hN
      | 39, _ =>
        rw [r_tsIn (tgt := 1374) (off := 1341) dL_law_33 (by decide) (by decide) rfl rfl]
        exact law_c39 hI hK hY hX hbB hXb hk hL (by omega) (by omega) hN
      | 40, _ =>
        rw [r_tsIn (tgt := 1397) (off := 1364) dL_law_33 (by decide) (by decide) rfl rfl]
        exact law_c40 hI hK hY hX hbB hXb hk hL (by omega) (by omega) hN
      | j + 41, hj => exact absurd hj (by omega)
end LX
