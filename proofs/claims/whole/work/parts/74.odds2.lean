section OD
variable {X : HM} {EV : Nat → Value} {d : Nat} {hm : HM} {hs : Nat} {Q : QT} {t pa pb qa qb : Nat} {V : Nat → Nat → Int32} {AA : Nat → Nat → Nat → Int32} {R : Nat → Int64} {B n w h nl np nw nr : Nat}
theorem c_odds {q k : Int32} (hW : TW hm t pa pb qa qb V AA R) (hz : SZ V AA n w h nl np nw nr) (hc : V 8 0 = 0 → siR (V 0) (AA 0) (AA 2) n nl np nw nr (AA 8)) (hwt : WT (AA 2 6) nl)
    (h0 : ¬ ((0 ≤ q ∧ q < nI np) ∧ (0 ≤ k ∧ k < nI nl)) → Q (some (.int (-2))) hm hs)
    (hQ : ∀ i j, i < np → j < nl → q = nI i → k = nI j → ∀ hm' V' AA', TW hm' t pa pb qa qb V' AA' R → KX 8 V V' AA AA' → V' 8 0 = 0 → siR (V 0) (AA 0) (AA 2) n nl np nw nr (AA' 8) → sm t (t + 70) hm hm' → Q (some (.int (nI (oddB (AA 2 6) (AA' 8 3 i) nl j)))) hm' hs) : CC X EV (d + 5) 125 [.ref t, .int q, .int k] hm hs Q := by
  obtain ⟨-, -, -, ⟨e3, l3⟩, ⟨e4, l4⟩, -⟩ := id hz
  refine c_of (ls2 := [.ref t, .int q, .int k]) Y125 (Nat.le_of_ble_eq_true rfl) rfl I125 ?_
  simp only [r_al0 dX9_odds_0, r_getf dX9_odds_1 F9_22, r_il1 dX9_odds_4, List.cons_append, List.nil_append, Nat.reduceAdd, Option.toList, g9_2, z0, hW.r, rd_own hW.r, hW.r, rd_own hW.r, th_0, th_1, th_2, th_3, th_4, th_5, th_6, th_7, th_8, th_9]
  refine r_iv2 dX9_odds_5 M9_272 Y65 O65 (Nat.le_of_ble_eq_true rfl) (rcv_own hW.sc.r) (Nat.le_refl _) (Nat.le_refl _) ?_
  refine c_hasPlace hW.sc ?_
  rw [e4]
  simp only [r_if_eq (tgt := 22) dX9_odds_8 rfl, r_al0 dX9_odds_11, r_getf dX9_odds_12 F9_22, r_il2 dX9_odds_15, r_bipush dX9_odds_22 kbm2, r_iret dX9_odds_24 (Nat.zero_le _) (Nat.zero_le _), List.cons_append, List.nil_append, Nat.reduceAdd, Option.toList, g9_2, z0, hW.r, rd_own hW.r, hW.r, rd_own hW.r, th_0, th_1, th_2, th_3, th_4, th_5, th_6, th_7, th_8, th_9]
  refine ⟨fun g => h0 (fun z => g z.1), fun g => ?_⟩
  refine r_iv2 dX9_odds_16 M9_153 Y64 O64 (Nat.le_of_ble_eq_true rfl) (rcv_own hW.sc.r) (Nat.le_refl _) (Nat.le_refl _) ?_
  refine c_hasLetter hW.sc ?_
  rw [e3]
  simp only [r_if_ne (tgt := 25) dX9_odds_19 rfl, r_bipush dX9_odds_22 kbm2, r_iret dX9_odds_24 (Nat.zero_le _) (Nat.zero_le _), r_al0 dX9_odds_25, r_getf dX9_odds_26 F9_60, r_al0 dX9_odds_29, r_getf dX9_odds_30 F9_10, r_al0 dX9_odds_33, r_getf dX9_odds_34 F9_22, List.cons_append, List.nil_append, Nat.reduceAdd, Option.toList, g9_0, g9_2, g9_8, z0, hW.r, rd_own hW.r, hW.r, rd_own hW.r, th_0, th_1, th_2, th_3, th_4, th_5, th_6, th_7, th_8, th_9]
  refine ⟨fun g2 => ?_, fun g2 => h0 (fun z => Classical.not_not.mp g2 z.2)⟩
  obtain ⟨i, hi, rfl⟩ := ix (by omega) (Classical.not_not.mp g)
  obtain ⟨j, hj, rfl⟩ := ix (by omega) (Classical.not_not.mp g2)
  refine r_iv3 dX9_odds_37 M9_275 Y82 O82 (Nat.le_of_ble_eq_true rfl) (rcv_own hW.si.r) (Nat.le_refl _) (Nat.le_refl _) ?_
  refine c_look hW hz hc (fun hm' V' AA' hW' k1 k2 k3 k4 => ?_)
  have hQ := hQ i j hi hj rfl rfl hm' V' AA' hW' k1 k2 k3 (k4.wide (by omega))
  have hp := hW'.si
  simp only [r_al0 dX9_odds_40, r_getf dX9_odds_41 F9_22, r_il2 dX9_odds_44, r_al0 dX9_odds_45, r_getf dX9_odds_46 F9_60, r_getf dX9_odds_49 F9_293, r_il1 dX9_odds_52, r_iald dX9_odds_53, List.cons_append, List.nil_append, Nat.reduceAdd, Option.toList, aI_ok, g6_3, g9_2, g9_8, z0, hW'.r, rd_own hW'.r, hW'.r, rd_own hW'.r, th_0, th_1, th_2, th_3, th_4, th_5, th_6, th_7, th_8, th_9, hp.r, rd_own hp.r, hp.r3, rd_own hp.r3, nI_clamp (show i < 2 ^ 31 by omega)]
  refine ⟨vp_in_nI (by omega) (by omega), ?_⟩
  have e2 : AA' 2 = AA 2 := (k1 2 (by decide)).2
  generalize AA' 8 3 i = T at hQ ⊢
  refine r_iv3 dX9_odds_54 M9_296 Y79 O79 (Nat.le_of_ble_eq_true rfl) (rcv_own hW'.sc.r) (Nat.le_refl _) (Nat.le_refl _) ?_
  refine c_share hW'.sc (n := nl) (by rw [(k1 2 (by decide)).1]; exact e3) l3 (by omega) (fun hb => ?_) ?_
  · rw [e2]
    obtain ⟨v, tt, a1, a2, a3, a4, a5, a6, a7, a8, a9⟩ := odd_s hwt hj hb
    refine ⟨by rw [a5]; exact nI_lt (a := 0) (by omega) (by omega), ?_⟩
    rw [a7]; exact fn_nan (by omega)
  · rw [e2]
    by_cases hb : bt T j = true
    · obtain ⟨v, tt, a1, a2, a3, a4, a5, a6, a7, a8, a9⟩ := odd_s hwt hj hb
      rw [if_pos hb, a7]
      simp only [List.cons_append, List.nil_append, Nat.reduceAdd, Option.toList, z0]
      refine r_ist1 dX9_odds_57 M9_300 Y134 (Nat.le_of_ble_eq_true rfl) (Nat.le_refl _) (Nat.le_refl _) ?_
      refine c_bitsOf (by omega) a9 ?_
      simp only [r_iret dX9_odds_60 (Nat.zero_le _) (Nat.zero_le _), List.cons_append, List.nil_append, Nat.reduceAdd, Option.toList, z0]
      exact hQ
    · rw [if_neg hb]
      have e0 : oddB (AA 2 6) T nl j = 0 := by unfold oddB; rw [if_neg hb]
      rw [e0] at hQ
      simp only [List.cons_append, List.nil_append, Nat.reduceAdd, Option.toList, z0]
      refine r_ist1 dX9_odds_57 M9_300 Y134 (Nat.le_of_ble_eq_true rfl) (Nat.le_refl _) (Nat.le_refl _) ?_
      refine c_bitsOf0 ?_
      simp only [r_iret dX9_odds_60 (Nat.zero_le _) (Nat.zero_le _), List.cons_append, List.nil_append, Nat.reduceAdd, Option.toList, z0]
      exact hQ
theorem c_likelihood {r k : Int32} (hW : TW hm t pa pb qa qb V AA R) (hz : SZ V AA n w h nl np nw nr) (hc : V 8 0 = 0 → siR (V 0) (AA 0) (AA 2) n nl np nw nr (AA 8)) (hwt : WT (AA 2 6) nl)
    (hlt : ∀ w, w < nw → ∀ l, AA 2 10 w = nI l → l ≤ 6 → ∀ i, i < l → ∃ t, t < nl ∧ AA 2 11 (6 * w + i) = nI t)
    (hsu : ∀ S r f l j, siR (V 0) (AA 0) (AA 2) n nl np nw nr S → r < nr → j < nw → AA 2 12 r = nI f → AA 2 13 r = nI l → f + l ≤ 8 → l ≤ 6 → wfP (AA 2) (S 2) r f l j → ∀ i, i < l → bt (S 3 (f + i)) (AA 2 11 (6 * j + i)).toNatClampNeg = true)
    (h0 : ¬ ((0 ≤ r ∧ r < nI nr) ∧ (0 ≤ k ∧ k < nI nw)) → Q (some (.int (-2))) hm hs)
    (hQ : ∀ i j f l, i < nr → j < nw → r = nI i → k = nI j → AA 2 12 i = nI f → AA 2 13 i = nI l → f + l ≤ 8 → l ≤ 6 → ∀ hm' V' AA', TW hm' t pa pb qa qb V' AA' R → KX 8 V V' AA AA' → V' 8 0 = 0 → siR (V 0) (AA 0) (AA 2) n nl np nw nr (AA' 8) → sm t (t + 70) hm hm' →
      Q (some (.int (if wfP (AA 2) (AA' 8 2) i f l j then nI (lkB (AA 2 6) nl (AA' 8 3) f (fun x => (AA 2 11 (6 * j + x)).toNatClampNeg) l) else 0))) hm' hs) : CC X EV (d + 5) 142 [.ref t, .int r, .int k] hm hs Q := by
  obtain ⟨-, -, -, ⟨e3, l3⟩, hS⟩ := id hz
  obtain ⟨⟨e4, l4⟩, ⟨e5, l5⟩, ⟨e6, l6⟩, hR, hWd, -⟩ := id hS
  refine c_of (ls2 := [.ref t, .int r, .int k, .null, .null, .null]) Y142 (Nat.le_of_ble_eq_true rfl) rfl I142 ?_
  simp only [r_al0 dX9_likelihood_0, r_getf dX9_likelihood_1 F9_22, r_il1 dX9_likelihood_4, List.cons_append, List.nil_append, Nat.reduceAdd, Option.toList, g9_2, z0, hW.r, rd_own hW.r, hW.r, rd_own hW.r, th_0, th_1, th_2, th_3, th_4, th_5, th_6, th_7, th_8, th_9]
  refine r_iv2 dX9_likelihood_5 M9_307 Y67 O67 (Nat.le_of_ble_eq_true rfl) (rcv_own hW.sc.r) (Nat.le_refl _) (Nat.le_refl _) ?_
  refine c_hasRun hW.sc ?_
  rw [e6]
  simp only [r_if_eq (tgt := 22) dX9_likelihood_8 rfl, r_al0 dX9_likelihood_11, r_getf dX9_likelihood_12 F9_22, r_il2 dX9_likelihood_15, r_bipush dX9_likelihood_22 kbm2, r_iret dX9_likelihood_24 (Nat.zero_le _) (Nat.zero_le _), List.cons_append, List.nil_append, Nat.reduceAdd, Option.toList, g9_2, z0, hW.r, rd_own hW.r, hW.r, rd_own hW.r, th_0, th_1, th_2, th_3, th_4, th_5, th_6, th_7, th_8, th_9]
  refine ⟨fun g => h0 (fun z => g z.1), fun g => ?_⟩
  refine r_iv2 dX9_likelihood_16 M9_372 Y66 O66 (Nat.le_of_ble_eq_true rfl) (rcv_own hW.sc.r) (Nat.le_refl _) (Nat.le_refl _) ?_
  refine c_hasWord hW.sc ?_
  rw [e5]
  simp only [r_if_ne (tgt := 25) dX9_likelihood_19 rfl, r_bipush dX9_likelihood_22 kbm2, r_iret dX9_likelihood_24 (Nat.zero_le _) (Nat.zero_le _), r_al0 dX9_likelihood_25, r_getf dX9_likelihood_26 F9_60, r_al0 dX9_likelihood_29, r_getf dX9_likelihood_30 F9_10, r_al0 dX9_likelihood_33, r_getf dX9_likelihood_34 F9_22, List.cons_append, List.nil_append, Nat.reduceAdd, Option.toList, g9_0, g9_2, g9_8, z0, hW.r, rd_own hW.r, hW.r, rd_own hW.r, th_0, th_1, th_2, th_3, th_4, th_5, th_6, th_7, th_8, th_9]
  refine ⟨fun g2 => ?_, fun g2 => h0 (fun z => Classical.not_not.mp g2 z.2)⟩
  obtain ⟨i, hi, rfl⟩ := ix (by omega) (Classical.not_not.mp g)
  obtain ⟨j, hj, rfl⟩ := ix (by omega) (Classical.not_not.mp g2)
  obtain ⟨f, l, ef, el, hfl, hl6⟩ := hR i hi
  refine r_iv3 dX9_likelihood_37 M9_275 Y82 O82 (Nat.le_of_ble_eq_true rfl) (rcv_own hW.si.r) (Nat.le_refl _) (Nat.le_refl _) ?_
  refine c_look hW hz hc (fun hm' V' AA' hW' k1 k2 k3 k4 => ?_)
  have hQ := hQ i j f l hi hj rfl rfl ef el hfl hl6 hm' V' AA' hW' k1 k2 k3 (k4.wide (by omega))
  have hsu := hsu (AA' 8) i f l j k3 hi hj ef el hfl hl6
  have hp := hW'.si
  have hsc := hW'.sc
  have e2 : AA' 2 = AA 2 := (k1 2 (by decide)).2
  have e2v : V' 2 = V 2 := (k1 2 (by decide)).1
  rw [e2, e2v] at hsc
  simp only [r_al0 dX9_likelihood_40, r_getf dX9_likelihood_41 F9_22, r_il2 dX9_likelihood_44, r_il1 dX9_likelihood_45, r_al0 dX9_likelihood_46, r_getf dX9_likelihood_47 F9_60, r_getf dX9_likelihood_50 F9_290, List.cons_append, List.nil_append, Nat.reduceAdd, Option.toList, g6_2, g9_2, g9_8, z0, hW'.r, rd_own hW'.r, hW'.r, rd_own hW'.r, th_0, th_1, th_2, th_3, th_4, th_5, th_6, th_7, th_8, th_9, hp.r, rd_own hp.r, hp.r, rd_own hp.r]
  refine r_iv4 dX9_likelihood_53 M9_313 Y75 O75 (Nat.le_of_ble_eq_true rfl) (rcv_own hW'.sc.r) (Nat.le_refl _) (Nat.le_refl _) ?_
  refine c_wordFits (c := wfP (AA 2) (AA' 8 2) i f l j) hsc hp.r2 (by omega) (by omega) ef el hfl hl6 (scW_lt hS hj el hl6) Iff.rfl ?_
  by_cases hw : wfP (AA 2) (AA' 8 2) i f l j
  · rw [if_pos hw]
    rw [if_pos hw] at hQ
    have hsu := hsu hw
    have hlt := hlt j hj l (hw.1.trans el) hl6
    have hltN : ∀ x, x < l → (AA 2 11 (6 * j + x)).toNatClampNeg < nl := fun x hx => by
      obtain ⟨tt, h1, h2⟩ := hlt x hx
      rw [h2, nI_clamp (by omega)]; exact h1
    have ew : AA 2 10 j = nI l := hw.1.trans el
    obtain ⟨LT, eLT⟩ : ∃ LT : Nat → Nat, LT = fun x => (AA 2 11 (6 * j + x)).toNatClampNeg := ⟨_, rfl⟩
    rw [← eLT] at hQ
    have hltN2 : ∀ x, x < l → LT x < nl := by rw [eLT]; exact hltN
    have hsu2 : ∀ x, x < l → bt (AA' 8 3 (f + x)) (LT x) = true := by rw [eLT]; exact hsu
    simp only [r_if_ne (tgt := 61) dX9_likelihood_56 rfl, r_iconst dX9_likelihood_59 ki0, r_iret dX9_likelihood_60 (Nat.zero_le _) (Nat.zero_le _), r_fconst dX9_likelihood_61, r_fs3 dX9_likelihood_62, r_al0 dX9_likelihood_63, r_getf dX9_likelihood_64 F9_22, r_getf dX9_likelihood_67 F9_375, r_il1 dX9_likelihood_70, r_iald dX9_likelihood_71, r_is4 dX9_likelihood_72, r_iconst dX9_likelihood_74 ki0, r_is5 dX9_likelihood_75, List.cons_append, List.nil_append, Nat.reduceAdd, Option.toList, aI_ok, cat_f, cat_i, cat_n, cat_r, eq_self, g5_12, g9_2, true_and, z0, hW'.r, rd_own hW'.r, hW'.r, rd_own hW'.r, th_0, th_1, th_2, th_3, th_4, th_5, th_6, th_7, th_8, th_9, hsc.r, rd_own hsc.r, hsc.r12, rd_own hsc.r12, nI_clamp (show i < 2 ^ 31 by omega), ef, show i_fcs 1 = uB 1065353216 from rfl]
    refine ⟨fun _ => ⟨vp_in_nI (by omega) (by omega), ?_⟩, fun z => absurd (Classical.not_not.mp z) (by decide)⟩
    refine up_loop l (fun x => E1 X EV (d + 4) 9 0 0 (some .int) false cX9_likelihood Q 77 [.ref t, .int (nI i), .int (nI j), .float (uB (lkB (AA 2 6) nl (AA' 8 3) f LT x)), .int (nI f), .int (nI x)] [] 0 0 hm' hs) ?_ ?_ 0 (by omega)
    · obtain ⟨b1, b2⟩ := lk_b hwt hl6 hltN2 hsu2 l (Nat.le_refl l)
      simp only [r_il5 dX9_likelihood_77, r_al0 dX9_likelihood_79, r_getf dX9_likelihood_80 F9_22, r_getf dX9_likelihood_83 F9_378, r_il2 dX9_likelihood_86, r_iald dX9_likelihood_87, r_ic_ge (tgt := 130) dX9_likelihood_88 rfl, r_fl3 dX9_likelihood_91, r_al0 dX9_likelihood_92, r_getf dX9_likelihood_93 F9_22, r_al0 dX9_likelihood_96, r_getf dX9_likelihood_97 F9_22, r_il2 dX9_likelihood_100, r_il5 dX9_likelihood_101, r_fl3 dX9_likelihood_130, List.cons_append, List.nil_append, Nat.reduceAdd, Option.toList, aI_ok, g5_10, g9_2, z0, hW'.r, rd_own hW'.r, hW'.r, rd_own hW'.r, th_0, th_1, th_2, th_3, th_4, th_5, th_6, th_7, th_8, th_9, hsc.r, rd_own hsc.r, hsc.r10, rd_own hsc.r10, nI_clamp (show j < 2 ^ 31 by omega), ew]
      refine ⟨vp_in_nI (by omega) (by omega), fun _ => ?_, fun z => absurd (Int32.le_refl _) z⟩
      refine r_ist1 dX9_likelihood_131 M9_300 Y134 (Nat.le_of_ble_eq_true rfl) (Nat.le_refl _) (Nat.le_refl _) ?_
      refine c_bitsOf (by omega) b2 ?_
      simp only [r_iret dX9_likelihood_134 (Nat.zero_le _) (Nat.zero_le _), List.cons_append, List.nil_append, Nat.reduceAdd, Option.toList, z0]
      exact hQ
    · intro x hx ih
      obtain ⟨m1, m2, m3, m4, m5⟩ := lk_m hwt hl6 hltN2 hsu2 hx
      obtain ⟨f1, f2, f3⟩ := fn_mlB m1 m2 m3 m4 m5
      obtain ⟨tt, ht1, ht2⟩ := hlt x hx
      have eL : LT x = tt := by rw [eLT]; show (AA 2 11 (6 * j + x)).toNatClampNeg = tt; rw [ht2, nI_clamp (by omega)]
      unfold lkB at ih
      rw [eL] at m3 m4 m5 f1 f2 f3 ih
      have hb := hsu2 x hx
      rw [eL] at hb
      simp only [r_il5 dX9_likelihood_77, r_al0 dX9_likelihood_79, r_getf dX9_likelihood_80 F9_22, r_getf dX9_likelihood_83 F9_378, r_il2 dX9_likelihood_86, r_iald dX9_likelihood_87, r_ic_ge (tgt := 130) dX9_likelihood_88 rfl, r_fl3 dX9_likelihood_91, r_al0 dX9_likelihood_92, r_getf dX9_likelihood_93 F9_22, r_al0 dX9_likelihood_96, r_getf dX9_likelihood_97 F9_22, r_il2 dX9_likelihood_100, r_il5 dX9_likelihood_101, r_fl3 dX9_likelihood_130, List.cons_append, List.nil_append, Nat.reduceAdd, Option.toList, aI_ok, g5_10, g9_2, z0, hW'.r, rd_own hW'.r, hW'.r, rd_own hW'.r, th_0, th_1, th_2, th_3, th_4, th_5, th_6, th_7, th_8, th_9, hsc.r, rd_own hsc.r, hsc.r10, rd_own hsc.r10, nI_clamp (show j < 2 ^ 31 by omega), ew]
      refine ⟨vp_in_nI (by omega) (by omega), fun z => absurd ((nI_leI (by omega) (by omega)).mp z) (by omega), fun _ => ?_⟩
      refine r_iv3 dX9_likelihood_103 M9_381 Y73 O73 (Nat.le_of_ble_eq_true rfl) (rcv_own hsc.r) (Nat.le_refl _) (Nat.le_refl _) ?_
      refine c_letterOf hsc (by omega) (by omega) ?_
      rw [ht2]
      simp only [r_al0 dX9_likelihood_106, r_getf dX9_likelihood_107 F9_60, r_getf dX9_likelihood_110 F9_293, r_il4 dX9_likelihood_113, r_il5 dX9_likelihood_115, r_iadd dX9_likelihood_117, r_iald dX9_likelihood_118, List.cons_append, List.nil_append, Nat.reduceAdd, Option.toList, aI_ok, g6_3, g9_8, z0, hW'.r, rd_own hW'.r, hW'.r, rd_own hW'.r, th_0, th_1, th_2, th_3, th_4, th_5, th_6, th_7, th_8, th_9, hp.r, rd_own hp.r, hp.r3, rd_own hp.r3, nI_add, nI_clamp (show f + x < 2 ^ 31 by omega)]
      refine ⟨vp_in_nI (by omega) (by omega), ?_⟩
      refine r_iv3 dX9_likelihood_119 M9_296 Y79 O79 (Nat.le_of_ble_eq_true rfl) (rcv_own hsc.r) (Nat.le_refl _) (Nat.le_refl _) ?_
      obtain ⟨v, tw, a1, a2, a3, a4, a5, a6, a7, a8, a9⟩ := odd_s hwt ht1 hb
      refine c_share hsc (n := nl) e3 l3 (by omega) (fun _ => ?_) ?_
      · refine ⟨by rw [a5]; exact nI_lt (a := 0) (by omega) (by omega), ?_⟩
        rw [a7]; exact fn_nan (by omega)
      · rw [if_pos hb, a7]
        simp only [r_fmul dX9_likelihood_122, r_fs3 dX9_likelihood_123, r_ii5 dX9_likelihood_124 kn1, r_gotoB (tgt := 77) dX9_likelihood_127 rfl, List.cons_append, List.nil_append, Nat.reduceAdd, Option.toList, cat_f, cat_i, cat_n, cat_r, eq_self, true_and, z0, f1]
        refine ⟨fn_nan (by omega), ?_⟩
        try simp (disch := omega) only [E2, nI_1, nI_add, nI_leI, nI_ltI, nI_eq, nI_clamp]
        exact ih
  · rw [if_neg hw]
    rw [if_neg hw] at hQ
    simp only [r_if_ne (tgt := 61) dX9_likelihood_56 rfl, r_iconst dX9_likelihood_59 ki0, r_iret dX9_likelihood_60 (Nat.zero_le _) (Nat.zero_le _), r_fconst dX9_likelihood_61, r_fs3 dX9_likelihood_62, r_al0 dX9_likelihood_63, r_getf dX9_likelihood_64 F9_22, r_getf dX9_likelihood_67 F9_375, r_il1 dX9_likelihood_70, r_iald dX9_likelihood_71, r_is4 dX9_likelihood_72, r_iconst dX9_likelihood_74 ki0, r_is5 dX9_likelihood_75, List.cons_append, List.nil_append, Nat.reduceAdd, Option.toList, aI_ok, cat_f, cat_i, cat_n, cat_r, eq_self, g5_12, g9_2, true_and, z0]
    exact ⟨fun z => absurd trivial z, fun _ => hQ⟩
end OD
