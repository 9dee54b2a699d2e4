theorem lg_le0 {a b : Int64} : (lg_cmp a b ≤ 0) = ¬ b < a := by
  rw [lg_cmp_le]
  apply propext
  grind
section Q4
variable {X : HM} {EV : Nat → Value} {d : Nat} {hm : HM} {hs : Nat} {Q : QT} {t pa pb qa qb : Nat} {V : Nat → Nat → Int32} {AA : Nat → Nat → Nat → Int32} {R : Nat → Int64} {B n w h nl np nw nr : Nat}
theorem c_likely {r : Int32} (hW : TW hm t pa pb qa qb V AA R) (hz : SZ V AA n w h nl np nw nr) (hc : V 8 0 = 0 → siR (V 0) (AA 0) (AA 2) n nl np nw nr (AA 8)) (hlt : ∀ w, w < nw → ∀ l, AA 2 10 w = nI l → l ≤ 6 → ∀ i, i < l → ∃ t, t < 10 ∧ AA 2 11 (6 * w + i) = nI t)
    (h0 : ¬ (0 ≤ r ∧ r < nI nr) → Q (some (.int (-2))) hm hs)
    (hQ : ∀ i f l, i < nr → r = nI i → AA 2 12 i = nI f → AA 2 13 i = nI l → f + l ≤ 8 → l ≤ 6 → ∀ hm' V' AA', TW hm' t pa pb qa qb V' AA' R → KX 8 V V' AA AA' → V' 8 0 = 0 → siR (V 0) (AA 0) (AA 2) n nl np nw nr (AA' 8) → sm t (t + 70) hm hm' →
      Q (some (.int (likv (wfP (AA 2) (AA' 8 2) i f l) (fun w => prodL (AA 2) w l) nw).1)) hm' hs) : CC X EV (d + 5) 128 [.ref t, .int r] hm hs Q := by
  obtain ⟨-, -, -, -, ⟨e4, l4⟩, ⟨e5, l5⟩, ⟨e6, l6⟩, hR, hWd, -⟩ := id hz
  have hp := hW.sc
  refine c_of (ls2 := [.ref t, .int r, .null, .null, .null, .null]) Y128 (Nat.le_of_ble_eq_true rfl) rfl I128 ?_
  simp only [r_al0 dX9_likely_0, r_getf dX9_likely_1 F9_22, r_il1 dX9_likely_4, List.cons_append, List.nil_append, Nat.reduceAdd, Option.toList, g9_2, z0, hW.r, rd_own hW.r, hW.r, rd_own hW.r, th_0, th_1, th_2, th_3, th_4, th_5, th_6, th_7, th_8, th_9]
  refine r_iv2 dX9_likely_5 M9_307 Y67 O67 (Nat.le_of_ble_eq_true rfl) (rcv_own hp.r) (Nat.le_refl _) (Nat.le_refl _) ?_
  refine c_hasRun hp ?_
  rw [e6]
  simp only [r_if_ne (tgt := 14) dX9_likely_8 rfl, r_bipush dX9_likely_11 kbm2, r_iret dX9_likely_13 (Nat.zero_le _) (Nat.zero_le _), r_al0 dX9_likely_14, r_getf dX9_likely_15 F9_60, r_al0 dX9_likely_18, r_getf dX9_likely_19 F9_10, r_al0 dX9_likely_22, r_getf dX9_likely_23 F9_22, List.cons_append, List.nil_append, Nat.reduceAdd, Option.toList, g9_0, g9_2, g9_8, z0, hW.r, rd_own hW.r, hW.r, rd_own hW.r, th_0, th_1, th_2, th_3, th_4, th_5, th_6, th_7, th_8, th_9]
  refine ⟨fun hk => ?_, fun hk => h0 (Classical.not_not.mp hk)⟩
  obtain ⟨i, hi, rfl⟩ := ix (by omega) (Classical.not_not.mp hk)
  obtain ⟨f, l, f1, f2, f3, f4⟩ := hR i hi
  refine r_iv3 dX9_likely_26 M9_275 Y82 O82 (Nat.le_of_ble_eq_true rfl) (rcv_own hW.si.r) (Nat.le_refl _) (Nat.le_refl _) ?_
  refine c_look hW hz hc (fun hm' V' AA' hW' k1 k2 k3 k4 => ?_)
  have hQ := hQ i f l hi rfl f1 f2 f3 f4 hm' V' AA' hW' k1 k2 k3 (k4.wide (by omega))
  have hp' := hW'.sc
  have e7 : V' 2 2 = nI nw := by rw [(k1 2 (by decide)).1]; exact e5
  have e8 : AA' 2 = AA 2 := (k1 2 (by decide)).2
  have hS' : scW (V' 2) (AA' 2) np nw nr := (hz.s k1 (by decide) (by decide)).2.2.2.2
  rw [← e8] at f1 f2 hQ hlt
  simp only [r_iconst dX9_likely_29 kim1, r_is2 dX9_likely_30, r_lconst dX9_likely_31 kl0, r_ls3 dX9_likely_32, r_iconst dX9_likely_33 ki0, r_is5 dX9_likely_34, List.cons_append, List.nil_append, Nat.reduceAdd, Option.toList, cat_f, cat_i, cat_n, cat_r, eq_self, true_and, z0]
  refine up_loop nw (fun j => E1 X EV (d + 4) 9 0 0 (some .int) false cX9_likely Q 36 [.ref t, .int (nI i), .int (likv (wfP (AA' 2) (AA' 8 2) i f l) (fun w => prodL (AA' 2) w l) j).1, .long (likv (wfP (AA' 2) (AA' 8 2) i f l) (fun w => prodL (AA' 2) w l) j).2, .null, .int (nI j)] [] 0 0 hm' hs) ?_ ?_ 0 (by omega)
  · skip
    simp only [r_il5 dX9_likely_36, r_al0 dX9_likely_38, r_getf dX9_likely_39 F9_22, r_getf dX9_likely_42 F9_310, r_ic_ge (tgt := 101) dX9_likely_45 rfl, r_al0 dX9_likely_48, r_getf dX9_likely_49 F9_22, r_il5 dX9_likely_52, r_il1 dX9_likely_54, r_al0 dX9_likely_55, r_getf dX9_likely_56 F9_60, r_getf dX9_likely_59 F9_290, r_il2 dX9_likely_101, r_iret dX9_likely_102 (Nat.zero_le _) (Nat.zero_le _), List.cons_append, List.nil_append, Nat.reduceAdd, Option.toList, g5_2, g6_2, g9_2, g9_8, z0, hW'.r, rd_own hW'.r, hW'.r, rd_own hW'.r, th_0, th_1, th_2, th_3, th_4, th_5, th_6, th_7, th_8, th_9, hp'.r, rd_own hp'.r, hp'.r, rd_own hp'.r, e7]
    exact ⟨fun _ => hQ, fun h => absurd (Int32.le_refl _) h⟩
  · intro j hj ih
    have hpS := hW'.si
    simp only [r_il5 dX9_likely_36, r_al0 dX9_likely_38, r_getf dX9_likely_39 F9_22, r_getf dX9_likely_42 F9_310, r_ic_ge (tgt := 101) dX9_likely_45 rfl, r_al0 dX9_likely_48, r_getf dX9_likely_49 F9_22, r_il5 dX9_likely_52, r_il1 dX9_likely_54, r_al0 dX9_likely_55, r_getf dX9_likely_56 F9_60, r_getf dX9_likely_59 F9_290, r_il2 dX9_likely_101, r_iret dX9_likely_102 (Nat.zero_le _) (Nat.zero_le _), List.cons_append, List.nil_append, Nat.reduceAdd, Option.toList, g5_2, g6_2, g9_2, g9_8, z0, hW'.r, rd_own hW'.r, hW'.r, rd_own hW'.r, th_0, th_1, th_2, th_3, th_4, th_5, th_6, th_7, th_8, th_9, hp'.r, rd_own hp'.r, hp'.r, rd_own hp'.r, hpS.r, rd_own hpS.r, hpS.r, rd_own hpS.r, e7]
    simp (disch := omega) only [E2, nI_1, nI_add, nI_leI, nI_ltI, nI_eq, nI_clamp]
    refine ⟨fun h => absurd h (by omega), fun _ => ?_⟩
    refine r_iv4 dX9_likely_62 M9_313 Y75 O75 (Nat.le_of_ble_eq_true rfl) (rcv_own hp'.r) (Nat.le_refl _) (Nat.le_refl _) ?_
    refine c_wordFits hp' hW'.si.r2 (by omega) (by omega) f1 f2 f3 f4 (scW_lt hS' hj f2 f4) (c := wfP (AA' 2) (AA' 8 2) i f l j) Iff.rfl ?_
    rw [likv] at ih
    simp only [r_if_eq (tgt := 95) dX9_likely_65 rfl, r_al0 dX9_likely_68, r_getf dX9_likely_69 F9_22, r_il5 dX9_likely_72, r_ii5 dX9_likely_95 kn1, r_gotoB (tgt := 36) dX9_likely_98 rfl, List.cons_append, List.nil_append, Nat.reduceAdd, Option.toList, cat_f, cat_i, cat_n, cat_r, eq_self, g9_2, true_and, z0, hW'.r, rd_own hW'.r, hW'.r, rd_own hW'.r, th_0, th_1, th_2, th_3, th_4, th_5, th_6, th_7, th_8, th_9]
    refine ⟨fun h => ?_, fun h => ?_⟩
    · simp (disch := omega) only [E2, nI_1, nI_add, nI_leI, nI_ltI, nI_eq, nI_clamp]
      rw [if_neg (fun z => h z.1)] at ih
      exact ih
    · have hcw := Classical.not_not.mp h
      have el : AA' 2 10 j = nI l := hcw.1.trans f2
      refine r_iv2 dX9_likely_74 M9_317 Y77 O77 (Nat.le_of_ble_eq_true rfl) (rcv_own hp'.r) (Nat.le_refl _) (Nat.le_refl _) ?_
      refine c_weightOfWord hp' (by omega) el f4 (hlt j hj l el f4) ?_
      simp only [r_ll3 dX9_likely_77, r_lcmp dX9_likely_78, r_if_le (tgt := 95) dX9_likely_79 rfl, r_il5 dX9_likely_82, r_is2 dX9_likely_84, r_al0 dX9_likely_85, r_getf dX9_likely_86 F9_22, r_il5 dX9_likely_89, r_ii5 dX9_likely_95 kn1, r_gotoB (tgt := 36) dX9_likely_98 rfl, List.cons_append, List.nil_append, Nat.reduceAdd, Option.toList, cat_f, cat_i, cat_n, cat_r, eq_self, g9_2, true_and, z0, hW'.r, rd_own hW'.r, hW'.r, rd_own hW'.r, th_0, th_1, th_2, th_3, th_4, th_5, th_6, th_7, th_8, th_9, lg_le0]
      refine ⟨fun h5 => ?_, fun h5 => ?_⟩
      · simp (disch := omega) only [E2, nI_1, nI_add, nI_leI, nI_ltI, nI_eq, nI_clamp]
        rw [if_neg (fun z => h5 z.2)] at ih
        exact ih
      · rw [if_pos ⟨hcw, Classical.not_not.mp h5⟩] at ih
        refine r_iv2 dX9_likely_91 M9_317 Y77 O77 (Nat.le_of_ble_eq_true rfl) (rcv_own hp'.r) (Nat.le_refl _) (Nat.le_refl _) ?_
        refine c_weightOfWord hp' (by omega) el f4 (hlt j hj l el f4) ?_
        simp only [r_ls3 dX9_likely_94, r_ii5 dX9_likely_95 kn1, r_gotoB (tgt := 36) dX9_likely_98 rfl, List.cons_append, List.nil_append, Nat.reduceAdd, Option.toList, cat_f, cat_i, cat_n, cat_r, eq_self, true_and, z0]
        simp (disch := omega) only [E2, nI_1, nI_add, nI_leI, nI_ltI, nI_eq, nI_clamp]
        exact ih
theorem c_countLoose {k : Nat} (hW : TW hm t pa pb qa qb V AA R) (hz : SZ V AA n w h nl np nw nr) (hc : V 8 0 = 0 → siR (V 0) (AA 0) (AA 2) n nl np nw nr (AA 8)) (hk : k < n)
    (hQ : ∀ hm' V' AA', TW hm' t pa pb qa qb V' AA' R → KX 8 V V' AA AA' → V' 8 0 = 0 → siR (V 0) (AA 0) (AA 2) n nl np nw nr (AA' 8) → sm t (t + 70) hm hm' →
      Q (some (.int (lsv (AA' 8 1) (fun q => lkP (V 0) (AA 0) n (AA 2 7 q) (AA 2 8 q) (mlow (V 0 4) (AA 0 12) n) (sb k)) np))) hm' hs) : CC X EV (d + 5) 137 [.ref t, .int (nI k)] hm hs Q := by
  obtain ⟨⟨e0, l0⟩, ⟨e1, l1⟩, ⟨e2, l2⟩, ⟨e3, l3⟩, ⟨e4, l4⟩, -⟩ := id hz
  refine c_of (ls2 := [.ref t, .int (nI k), .null, .null, .null, .null]) Y137 (Nat.le_of_ble_eq_true rfl) rfl I137 ?_
  simp only [r_al0 dX9_countLoose_0, r_getf dX9_countLoose_1 F9_60, r_al0 dX9_countLoose_4, r_getf dX9_countLoose_5 F9_10, r_al0 dX9_countLoose_8, r_getf dX9_countLoose_9 F9_22, List.cons_append, List.nil_append, Nat.reduceAdd, Option.toList, g9_0, g9_2, g9_8, z0, hW.r, rd_own hW.r, hW.r, rd_own hW.r, th_0, th_1, th_2, th_3, th_4, th_5, th_6, th_7, th_8, th_9]
  refine r_iv3 dX9_countLoose_12 M9_275 Y82 O82 (Nat.le_of_ble_eq_true rfl) (rcv_own hW.si.r) (Nat.le_refl _) (Nat.le_refl _) ?_
  refine c_look hW hz hc (fun hm' V' AA' hW' k1 k2 k3 k4 => ?_)
  have hQ := hQ hm' V' AA' hW' k1 k2 k3 (k4.wide (by omega))
  rw [← (k1 0 (by decide)).1, ← (k1 0 (by decide)).2, ← (k1 2 (by decide)).2] at hQ
  rw [← (k1 0 (by decide)).1] at e0 e1 e2
  rw [← (k1 2 (by decide)).1] at e4
  have hp := hW'.pg
  have hsc := hW'.sc
  have hsi := hW'.si
  simp only [r_al0 dX9_countLoose_15, r_getf dX9_countLoose_16 F9_10, r_al0 dX9_countLoose_19, r_getf dX9_countLoose_20 F9_10, r_getf dX9_countLoose_23 F9_263, List.cons_append, List.nil_append, Nat.reduceAdd, Option.toList, g1_4, g9_0, z0, hW'.r, rd_own hW'.r, hW'.r, rd_own hW'.r, th_0, th_1, th_2, th_3, th_4, th_5, th_6, th_7, th_8, th_9, hp.r, rd_own hp.r, hp.r, rd_own hp.r]
  refine r_iv2 dX9_countLoose_26 M9_266 Y26 O26 (Nat.le_of_ble_eq_true rfl) (rcv_own hp.r) (Nat.le_refl _) (Nat.le_refl _) ?_
  refine c_mustBeLower hp e2 l2 ?_
  simp only [r_is2 dX9_countLoose_29, r_iconst dX9_countLoose_30 ki0, r_is3 dX9_countLoose_31, r_iconst dX9_countLoose_32 ki0, r_is4 dX9_countLoose_33, List.cons_append, List.nil_append, Nat.reduceAdd, Option.toList, cat_f, cat_i, cat_n, cat_r, eq_self, true_and, z0]
  suffices H : ∀ q, q ≤ np → ∀ x, E1 X EV (d + 4) 9 0 0 (some .int) false cX9_countLoose Q 35 [.ref t, .int (nI k), .int (mlow (V' 0 4) (AA' 0 12) n), .int (lsv (AA' 8 1) (fun q => lkP (V' 0) (AA' 0) n (AA' 2 7 q) (AA' 2 8 q) (mlow (V' 0 4) (AA' 0 12) n) (sb k)) q), .int (nI q), x] [] 0 0 hm' hs from H 0 (by omega) _
  refine up_loop np _ ?_ ?_
  · intro x
    simp only [r_il4 dX9_countLoose_35, r_al0 dX9_countLoose_37, r_getf dX9_countLoose_38 F9_22, r_getf dX9_countLoose_41 F9_321, r_ic_ge (tgt := 113) dX9_countLoose_44 rfl, r_al0 dX9_countLoose_47, r_getf dX9_countLoose_48 F9_10, r_al0 dX9_countLoose_51, r_getf dX9_countLoose_52 F9_22, r_getf dX9_countLoose_55 F9_348, r_il4 dX9_countLoose_58, r_iald dX9_countLoose_60, r_al0 dX9_countLoose_61, r_getf dX9_countLoose_62 F9_22, r_getf dX9_countLoose_65 F9_351, r_il4 dX9_countLoose_68, r_iald dX9_countLoose_70, r_il2 dX9_countLoose_71, r_iconst dX9_countLoose_72 ki1, r_il1 dX9_countLoose_73, r_ishl dX9_countLoose_74, r_il3 dX9_countLoose_113, r_iret dX9_countLoose_114 (Nat.zero_le _) (Nat.zero_le _), List.cons_append, List.nil_append, Nat.reduceAdd, Option.toList, aI_ok, g5_1, g5_7, g5_8, g9_0, g9_2, z0, hW'.r, rd_own hW'.r, hW'.r, rd_own hW'.r, th_0, th_1, th_2, th_3, th_4, th_5, th_6, th_7, th_8, th_9, hsc.r, rd_own hsc.r, hsc.r, rd_own hsc.r, e4]
    exact ⟨fun _ => hQ, fun h => absurd (Int32.le_refl _) h⟩
  · intro q hq ih x
    have hin := vp_in_nI (show q < 8 by omega) (by omega)
    simp only [r_il4 dX9_countLoose_35, r_al0 dX9_countLoose_37, r_getf dX9_countLoose_38 F9_22, r_getf dX9_countLoose_41 F9_321, r_ic_ge (tgt := 113) dX9_countLoose_44 rfl, r_al0 dX9_countLoose_47, r_getf dX9_countLoose_48 F9_10, r_al0 dX9_countLoose_51, r_getf dX9_countLoose_52 F9_22, r_getf dX9_countLoose_55 F9_348, r_il4 dX9_countLoose_58, r_iald dX9_countLoose_60, r_al0 dX9_countLoose_61, r_getf dX9_countLoose_62 F9_22, r_getf dX9_countLoose_65 F9_351, r_il4 dX9_countLoose_68, r_iald dX9_countLoose_70, r_il2 dX9_countLoose_71, r_iconst dX9_countLoose_72 ki1, r_il1 dX9_countLoose_73, r_ishl dX9_countLoose_74, r_il3 dX9_countLoose_113, r_iret dX9_countLoose_114 (Nat.zero_le _) (Nat.zero_le _), List.cons_append, List.nil_append, Nat.reduceAdd, Option.toList, aI_ok, g5_1, g5_7, g5_8, g9_0, g9_2, z0, hW'.r, rd_own hW'.r, hW'.r, rd_own hW'.r, th_0, th_1, th_2, th_3, th_4, th_5, th_6, th_7, th_8, th_9, hsc.r, rd_own hsc.r, hsc.r7, rd_own hsc.r7, hsc.r8, rd_own hsc.r8, e4]
    simp (disch := omega) only [E2, nI_1, nI_add, nI_leI, nI_ltI, nI_eq, nI_clamp]
    refine ⟨fun h => absurd h (by omega), fun _ => ⟨hin, hin, ?_⟩⟩
    refine r_iv5 dX9_countLoose_75 M9_354 Y34 O34 (Nat.le_of_ble_eq_true rfl) (rcv_own hp.r) (Nat.le_refl _) (Nat.le_refl _) ?_
    refine c_lookAt hp e0 e1 l0 l1 e2 l2 ?_
    simp only [r_is5 dX9_countLoose_78, r_il3 dX9_countLoose_80, r_al0 dX9_countLoose_81, r_getf dX9_countLoose_82 F9_60, r_getf dX9_countLoose_85 F9_278, r_il4 dX9_countLoose_88, r_iald dX9_countLoose_90, List.cons_append, List.nil_append, Nat.reduceAdd, Option.toList, aI_ok, cat_f, cat_i, cat_n, cat_r, eq_self, g6_1, g9_8, true_and, z0, hW'.r, rd_own hW'.r, hW'.r, rd_own hW'.r, th_0, th_1, th_2, th_3, th_4, th_5, th_6, th_7, th_8, th_9, hsi.r, rd_own hsi.r, hsi.r1, rd_own hsi.r1, nI_clamp (show q < 2 ^ 31 by omega)]
    refine ⟨hin, ?_⟩
    refine r_ist1 dX9_countLoose_91 M9_287 Y133 (Nat.le_of_ble_eq_true rfl) (Nat.le_refl _) (Nat.le_refl _) ?_
    refine c_hiddenCells ?_
    simp only [r_il5 dX9_countLoose_94, List.cons_append, List.nil_append, Nat.reduceAdd, Option.toList, z0]
    refine r_ist1 dX9_countLoose_96 M9_287 Y133 (Nat.le_of_ble_eq_true rfl) (Nat.le_refl _) (Nat.le_refl _) ?_
    refine c_hiddenCells ?_
    simp only [r_iconst dX9_countLoose_99 kim1, r_ixor dX9_countLoose_100, r_iand dX9_countLoose_101, List.cons_append, List.nil_append, Nat.reduceAdd, Option.toList, z0]
    refine r_ist1 dX9_countLoose_102 M9_358 Y263 (Nat.le_of_ble_eq_true rfl) (Nat.le_refl _) (Nat.le_refl _) ?_
    refine c_bitCount ?_
    simp only [r_iadd dX9_countLoose_105, r_is3 dX9_countLoose_106, r_ii4 dX9_countLoose_107 kn1, r_gotoB (tgt := 35) dX9_countLoose_110 rfl, List.cons_append, List.nil_append, Nat.reduceAdd, Option.toList, cat_f, cat_i, cat_n, cat_r, eq_self, true_and, z0]
    simp (disch := omega) only [E2, nI_1, nI_add, nI_leI, nI_ltI, nI_eq, nI_clamp]
    exact ih _
theorem c_loose {k : Int32} (hW : TW hm t pa pb qa qb V AA R) (hz : SZ V AA n w h nl np nw nr) (hc : V 8 0 = 0 → siR (V 0) (AA 0) (AA 2) n nl np nw nr (AA 8))
    (h0 : ¬ (0 ≤ k ∧ k < nI n) → Q (some (.int (-2))) hm hs)
    (hQ : ∀ i, i < n → k = nI i → ∀ hm' V' AA', TW hm' t pa pb qa qb V' AA' R → KX 8 V V' AA AA' → V' 8 0 = 0 → siR (V 0) (AA 0) (AA 2) n nl np nw nr (AA' 8) → sm t (t + 70) hm hm' →
      Q (some (.int (lsv (AA' 8 1) (fun q => lkP (V 0) (AA 0) n (AA 2 7 q) (AA 2 8 q) (mlow (V 0 4) (AA 0 12) n) (sb i)) np))) hm' hs) : CC X EV (d + 6) 136 [.ref t, .int k] hm hs Q := by
  obtain ⟨-, -, ⟨e2, l2⟩, -, -⟩ := id hz
  refine c_of (ls2 := [.ref t, .int k]) Y136 (Nat.le_of_ble_eq_true rfl) rfl I136 ?_
  simp only [r_al0 dX9_loose_0, r_getf dX9_loose_1 F9_10, r_il1 dX9_loose_4, List.cons_append, List.nil_append, Nat.reduceAdd, Option.toList, g9_0, z0, hW.r, rd_own hW.r, hW.r, rd_own hW.r, th_0, th_1, th_2, th_3, th_4, th_5, th_6, th_7, th_8, th_9]
  refine r_iv2 dX9_loose_5 M9_128 Y6 O6 (Nat.le_of_ble_eq_true rfl) (rcv_own hW.pg.r) (Nat.le_refl _) (Nat.le_refl _) ?_
  refine c_has hW.pg ?_
  rw [e2]
  simp only [r_if_ne (tgt := 14) dX9_loose_8 rfl, r_bipush dX9_loose_11 kbm2, r_iret dX9_loose_13 (Nat.zero_le _) (Nat.zero_le _), r_al0 dX9_loose_14, r_il1 dX9_loose_15, List.cons_append, List.nil_append, Nat.reduceAdd, Option.toList, z0]
  refine ⟨fun hk => ?_, fun hk => h0 (Classical.not_not.mp hk)⟩
  obtain ⟨i, hi, rfl⟩ := ix (by omega) (Classical.not_not.mp hk)
  refine r_iv2 dX9_loose_16 M9_345 Y137 O137 (Nat.le_of_ble_eq_true rfl) (rcv_own hW.r) (Nat.le_refl _) (Nat.le_refl _) ?_
  refine c_countLoose hW hz hc hi (fun hm' V' AA' hW' k1 k2 k3 k4 => ?_)
  simp only [r_iret dX9_loose_19 (Nat.zero_le _) (Nat.zero_le _), List.cons_append, List.nil_append, Nat.reduceAdd, Option.toList, z0]
  exact hQ i hi rfl hm' V' AA' hW' k1 k2 k3 k4
theorem KX.trans {k : Nat} {V1 V2 V3 : Nat → Nat → Int32} {A1 A2 A3 : Nat → Nat → Nat → Int32} (a : KX k V1 V2 A1 A2) (b : KX k V2 V3 A2 A3) : KX k V1 V3 A1 A3 := fun j hj => ⟨(b j hj).1.trans (a j hj).1, (b j hj).2.trans (a j hj).2⟩
theorem KX.rf {k : Nat} {V1 : Nat → Nat → Int32} {A1 : Nat → Nat → Nat → Int32} : KX k V1 V1 A1 A1 := fun _ _ => ⟨rfl, rfl⟩
theorem c_scrape (hW : TW hm t pa pb qa qb V AA R) (hz : SZ V AA n w h nl np nw nr) (hc : V 8 0 = 0 → siR (V 0) (AA 0) (AA 2) n nl np nw nr (AA 8))
    (hQ : ∀ hm' V' AA' F, TW hm' t pa pb qa qb V' AA' R → KX 8 V V' AA AA' → (V' 8 0 = 0 → siR (V 0) (AA 0) (AA 2) n nl np nw nr (AA' 8)) → sm t (t + 70) hm hm' → (∀ i, i < n → ∃ S, siR (V 0) (AA 0) (AA 2) n nl np nw nr S ∧ F i = lsv (S 1) (fun q => lkP (V 0) (AA 0) n (AA 2 7 q) (AA 2 8 q) (mlow (V 0 4) (AA 0 12) n) (sb i)) np) →
      Q (some (.int (scv F n).1)) hm' hs) : CC X EV (d + 6) 138 [.ref t] hm hs Q := by
  obtain ⟨-, -, ⟨e2, l2⟩, -, -⟩ := id hz
  refine c_of (ls2 := [.ref t, .null, .null, .null, .null]) Y138 (Nat.le_of_ble_eq_true rfl) rfl I138 ?_
  simp only [r_iconst dX9_scrape_0 kim1, r_is1 dX9_scrape_1, r_iconst dX9_scrape_2 ki0, r_is2 dX9_scrape_3, r_iconst dX9_scrape_4 ki0, r_is3 dX9_scrape_5, List.cons_append, List.nil_append, Nat.reduceAdd, Option.toList, cat_f, cat_i, cat_n, cat_r, eq_self, true_and, z0]
  suffices H : ∀ k, k ≤ n → ∀ x hm' V' AA' F, TW hm' t pa pb qa qb V' AA' R → KX 8 V V' AA AA' → (V' 8 0 = 0 → siR (V 0) (AA 0) (AA 2) n nl np nw nr (AA' 8)) → sm t (t + 70) hm hm' → (∀ i, i < k → ∃ S, siR (V 0) (AA 0) (AA 2) n nl np nw nr S ∧ F i = lsv (S 1) (fun q => lkP (V 0) (AA 0) n (AA 2 7 q) (AA 2 8 q) (mlow (V 0 4) (AA 0 12) n) (sb i)) np) →
      E1 X EV (d + 5) 9 0 0 (some .int) false cX9_scrape Q 6 [.ref t, .int (scv F k).1, .int (scv F k).2, .int (nI k), x] [] 0 0 hm' hs from H 0 (by omega) _ hm V AA (fun _ => 0) hW KX.rf hc sm.rf (fun i hi => absurd hi (Nat.not_lt_zero i))
  refine up_loop n _ ?_ ?_
  · intro x hm' V' AA' F hW' k1 k2 k3 k4
    have hp := hW'.pg
    simp only [r_il3 dX9_scrape_6, r_al0 dX9_scrape_7, r_getf dX9_scrape_8 F9_10, r_getf dX9_scrape_11 F9_227, r_ic_ge (tgt := 41) dX9_scrape_14 rfl, r_al0 dX9_scrape_17, r_il3 dX9_scrape_18, r_il1 dX9_scrape_41, r_iret dX9_scrape_42 (Nat.zero_le _) (Nat.zero_le _), List.cons_append, List.nil_append, Nat.reduceAdd, Option.toList, g1_2, g9_0, z0, hW'.r, rd_own hW'.r, hW'.r, rd_own hW'.r, th_0, th_1, th_2, th_3, th_4, th_5, th_6, th_7, th_8, th_9, hp.r, rd_own hp.r, hp.r, rd_own hp.r, (k1 0 (by decide)).1, e2]
    exact ⟨fun _ => hQ hm' V' AA' F hW' k1 k2 k3 k4, fun h => absurd (Int32.le_refl _) h⟩
  · intro k hk ih x hm' V' AA' F hW' k1 k2 k3 k4
    have hp := hW'.pg
    simp only [r_il3 dX9_scrape_6, r_al0 dX9_scrape_7, r_getf dX9_scrape_8 F9_10, r_getf dX9_scrape_11 F9_227, r_ic_ge (tgt := 41) dX9_scrape_14 rfl, r_al0 dX9_scrape_17, r_il3 dX9_scrape_18, r_il1 dX9_scrape_41, r_iret dX9_scrape_42 (Nat.zero_le _) (Nat.zero_le _), List.cons_append, List.nil_append, Nat.reduceAdd, Option.toList, g1_2, g9_0, z0, hW'.r, rd_own hW'.r, hW'.r, rd_own hW'.r, th_0, th_1, th_2, th_3, th_4, th_5, th_6, th_7, th_8, th_9, hp.r, rd_own hp.r, hp.r, rd_own hp.r, (k1 0 (by decide)).1, e2]
    simp (disch := omega) only [E2, nI_1, nI_add, nI_leI, nI_ltI, nI_eq, nI_clamp]
    refine ⟨fun h => absurd h (by omega), fun _ => ?_⟩
    refine r_iv2 dX9_scrape_19 M9_345 Y137 O137 (Nat.le_of_ble_eq_true rfl) (rcv_own hW'.r) (Nat.le_refl _) (Nat.le_refl _) ?_
    refine c_countLoose hW' (hz.s k1 (by decide) (by decide)) (by rw [(k1 0 (by decide)).1, (k1 0 (by decide)).2, (k1 2 (by decide)).2]; exact k2) hk (fun hm2 V2 AA2 hW2 g1 g2 g3 g4 => ?_)
    rw [(k1 0 (by decide)).1, (k1 0 (by decide)).2, (k1 2 (by decide)).2] at g3 ⊢
    obtain ⟨F', eF⟩ : ∃ F' : Nat → Int32, F' = upd F k (lsv (AA2 8 1) (fun q => lkP (V 0) (AA 0) n (AA 2 7 q) (AA 2 8 q) (mlow (V 0 4) (AA 0 12) n) (sb k)) np) := ⟨_, rfl⟩
    have f1 : F' k = lsv (AA2 8 1) (fun q => lkP (V 0) (AA 0) n (AA 2 7 q) (AA 2 8 q) (mlow (V 0 4) (AA 0 12) n) (sb k)) np := by rw [eF, pk_us]
    have f2 : ∀ j, j ≤ k → scv F' j = scv F j := by
      intro j
      induction j with
      | zero => intro _; rfl
      | succ j ihj =>
        intro hj
        rw [scv, scv, ihj (by omega), eF, pk_un (by omega)]
    have ih := ih (.int (F' k)) hm2 V2 AA2 F' hW2 (k1.trans g1) (fun _ => g3) (k3.trans g4) (fun i hi => by
      rcases Nat.lt_or_ge i k with h' | h'
      · rw [eF, pk_un (by omega)]; exact k4 i h'
      · rw [show i = k by omega]; exact ⟨_, g3, f1⟩)
    rw [scv, f2 k (Nat.le_refl _)] at ih
    rw [← f1]
    simp only [r_is4 dX9_scrape_22, r_il4 dX9_scrape_24, r_il2 dX9_scrape_26, r_ic_le (tgt := 35) dX9_scrape_27 rfl, r_il3 dX9_scrape_30, r_is1 dX9_scrape_31, r_il4 dX9_scrape_32, r_is2 dX9_scrape_34, r_ii3 dX9_scrape_35 kn1, r_gotoB (tgt := 6) dX9_scrape_38 rfl, List.cons_append, List.nil_append, Nat.reduceAdd, Option.toList, cat_f, cat_i, cat_n, cat_r, eq_self, true_and, z0]
    refine ⟨fun h => ?_, fun h => ?_⟩
    · simp (disch := omega) only [E2, nI_1, nI_add, nI_leI, nI_ltI, nI_eq, nI_clamp]
      rw [if_neg (by grind)] at ih
      exact ih
    · simp (disch := omega) only [E2, nI_1, nI_add, nI_leI, nI_ltI, nI_eq, nI_clamp]
      rw [if_pos (by grind)] at ih
      exact ih
theorem c_clearer {q k : Int32} (hW : TW hm t pa pb qa qb V AA R) (hz : SZ V AA n w h nl np nw nr)
    (h0 : ¬ ((0 ≤ q ∧ q < nI np) ∧ (0 ≤ k ∧ k < nI n)) → Q (some (.int (-2))) hm hs)
    (hQ : ∀ i j, i < np → j < n → q = nI i → k = nI j → Q (some (.int (pcnt (fitv (AA 2 5) (lkP (V 0) (AA 0) n (AA 2 7 i) (AA 2 8 i) (mlow (V 0 4) (AA 0 12) n) (sb j)) nl)))) hm hs) : CC X EV (d + 4) 139 [.ref t, .int q, .int k] hm hs Q := by
  obtain ⟨⟨e0, l0⟩, ⟨e1, l1⟩, ⟨e2, l2⟩, ⟨e3, l3⟩, ⟨e4, l4⟩, -⟩ := id hz
  have hp := hW.pg
  have hsc := hW.sc
  refine c_of (ls2 := [.ref t, .int q, .int k, .null, .null]) Y139 (Nat.le_of_ble_eq_true rfl) rfl I139 ?_
  simp only [r_al0 dX9_clearer_0, r_getf dX9_clearer_1 F9_22, r_il1 dX9_clearer_4, List.cons_append, List.nil_append, Nat.reduceAdd, Option.toList, g9_2, z0, hW.r, rd_own hW.r, hW.r, rd_own hW.r, th_0, th_1, th_2, th_3, th_4, th_5, th_6, th_7, th_8, th_9]
  refine r_iv2 dX9_clearer_5 M9_272 Y65 O65 (Nat.le_of_ble_eq_true rfl) (rcv_own hsc.r) (Nat.le_refl _) (Nat.le_refl _) ?_
  refine c_hasPlace hsc ?_
  rw [e4]
  simp only [r_if_eq (tgt := 22) dX9_clearer_8 rfl, r_al0 dX9_clearer_11, r_getf dX9_clearer_12 F9_10, r_il2 dX9_clearer_15, r_bipush dX9_clearer_22 kbm2, r_iret dX9_clearer_24 (Nat.zero_le _) (Nat.zero_le _), List.cons_append, List.nil_append, Nat.reduceAdd, Option.toList, g9_0, z0, hW.r, rd_own hW.r, hW.r, rd_own hW.r, th_0, th_1, th_2, th_3, th_4, th_5, th_6, th_7, th_8, th_9]
  refine ⟨fun hk => h0 (fun z => hk z.1), fun hk => ?_⟩
  refine r_iv2 dX9_clearer_16 M9_128 Y6 O6 (Nat.le_of_ble_eq_true rfl) (rcv_own hp.r) (Nat.le_refl _) (Nat.le_refl _) ?_
  refine c_has hp ?_
  rw [e2]
  simp only [r_if_ne (tgt := 25) dX9_clearer_19 rfl, r_bipush dX9_clearer_22 kbm2, r_iret dX9_clearer_24 (Nat.zero_le _) (Nat.zero_le _), r_al0 dX9_clearer_25, r_getf dX9_clearer_26 F9_10, r_al0 dX9_clearer_29, r_getf dX9_clearer_30 F9_10, r_getf dX9_clearer_33 F9_263, List.cons_append, List.nil_append, Nat.reduceAdd, Option.toList, g1_4, g9_0, z0, hW.r, rd_own hW.r, hW.r, rd_own hW.r, th_0, th_1, th_2, th_3, th_4, th_5, th_6, th_7, th_8, th_9, hp.r, rd_own hp.r, hp.r, rd_own hp.r]
  refine ⟨fun hk2 => ?_, fun hk2 => h0 (fun z => Classical.not_not.mp hk2 z.2)⟩
  obtain ⟨i, hi, rfl⟩ := ix (by omega) (Classical.not_not.mp hk)
  obtain ⟨j, hj, rfl⟩ := ix (by omega) (Classical.not_not.mp hk2)
  have hin := vp_in_nI (show i < 8 by omega) (by omega)
  refine r_iv2 dX9_clearer_36 M9_266 Y26 O26 (Nat.le_of_ble_eq_true rfl) (rcv_own hp.r) (Nat.le_refl _) (Nat.le_refl _) ?_
  refine c_mustBeLower hp e2 l2 ?_
  simp only [r_is3 dX9_clearer_39, r_al0 dX9_clearer_40, r_getf dX9_clearer_41 F9_10, r_al0 dX9_clearer_44, r_getf dX9_clearer_45 F9_22, r_getf dX9_clearer_48 F9_348, r_il1 dX9_clearer_51, r_iald dX9_clearer_52, r_al0 dX9_clearer_53, r_getf dX9_clearer_54 F9_22, r_getf dX9_clearer_57 F9_351, r_il1 dX9_clearer_60, r_iald dX9_clearer_61, r_il3 dX9_clearer_62, r_iconst dX9_clearer_63 ki1, r_il2 dX9_clearer_64, r_ishl dX9_clearer_65, List.cons_append, List.nil_append, Nat.reduceAdd, Option.toList, aI_ok, cat_f, cat_i, cat_n, cat_r, eq_self, g5_7, g5_8, g9_0, g9_2, true_and, z0, hW.r, rd_own hW.r, hW.r, rd_own hW.r, th_0, th_1, th_2, th_3, th_4, th_5, th_6, th_7, th_8, th_9, hsc.r, rd_own hsc.r, hsc.r7, rd_own hsc.r7, hsc.r8, rd_own hsc.r8, nI_clamp (show i < 2 ^ 31 by omega)]
  refine ⟨hin, hin, ?_⟩
  refine r_iv5 dX9_clearer_66 M9_354 Y34 O34 (Nat.le_of_ble_eq_true rfl) (rcv_own hp.r) (Nat.le_refl _) (Nat.le_refl _) ?_
  refine c_lookAt hp e0 e1 l0 l1 e2 l2 ?_
  simp only [r_is4 dX9_clearer_69, r_al0 dX9_clearer_71, r_getf dX9_clearer_72 F9_22, r_il4 dX9_clearer_75, List.cons_append, List.nil_append, Nat.reduceAdd, Option.toList, cat_f, cat_i, cat_n, cat_r, eq_self, g9_2, true_and, z0, hW.r, rd_own hW.r, hW.r, rd_own hW.r, th_0, th_1, th_2, th_3, th_4, th_5, th_6, th_7, th_8, th_9]
  refine r_iv2 dX9_clearer_77 M9_363 Y74 O74 (Nat.le_of_ble_eq_true rfl) (rcv_own hsc.r) (Nat.le_refl _) (Nat.le_refl _) ?_
  refine c_lettersThatFit hsc e3 l3 ?_
  simp only [List.cons_append, List.nil_append, Nat.reduceAdd, Option.toList, z0]
  refine r_ist1 dX9_clearer_80 M9_358 Y263 (Nat.le_of_ble_eq_true rfl) (Nat.le_refl _) (Nat.le_refl _) ?_
  refine c_bitCount ?_
  simp only [r_iret dX9_clearer_83 (Nat.zero_le _) (Nat.zero_le _), List.cons_append, List.nil_append, Nat.reduceAdd, Option.toList, z0]
  exact hQ i j hi hj rfl rfl
end Q4
