/-! ===== TwoHands: paste, judge, mending, count, and what changes the leaf ===== -/
theorem ixle {k : Int32} {n : Nat} (hn : n + 1 < 2 ^ 31) (h0 : 0 ≤ k) (h : k ≤ nI n) : ∃ i, i ≤ n ∧ k = nI i := by
  obtain ⟨i, hi, e⟩ := ix (k := k) (n := n + 1) hn ⟨h0, by have : nI n < nI (n + 1) := (nI_ltI (by omega) hn).mpr (by omega); grind⟩
  exact ⟨i, by omega, e⟩
theorem nI_sub {a b : Nat} (h : b ≤ a) : nI a - nI b = nI (a - b) := by
  have e : nI a = nI (a - b) + nI b := by rw [nI_add, show a - b + b = a by omega]
  rw [e]
  generalize nI (a - b) = y
  generalize nI b = x
  grind
theorem va_va {α : Type} (f : Nat → α) (k : Nat) (x y : α) : va_up (va_up f k x) k y = va_up f k y := by
  funext i
  by_cases h : i = k
  · rw [h, vu_eq, vu_eq]
  · rw [vu_ne h, vu_ne h, vu_ne h]
section Q7
variable {X : HM} {EV : Nat → Value} {d : Nat} {hm : HM} {hs : Nat} {Q : QT} {t pa pb qa qb : Nat} {V : Nat → Nat → Int32} {AA : Nat → Nat → Nat → Int32} {R : Nat → Int64} {B n w h nl np nw nr : Nat}
theorem c_paste {r1 a r2 b z : Int32} (hW : TW hm t pa pb qa qb V AA R) (hsz : ∀ i, i < 4 → ∃ z, z ≤ 12 ∧ V (9 + i) 2 = nI z)
    (h0 : ¬ ((0 ≤ r1 ∧ r1 < 4) ∧ (0 ≤ r2 ∧ r2 < 4)) → Q (some (.int (-2))) hm hs)
    (h1 : ∀ i j, i < 4 → j < 4 → r1 = nI i → r2 = nI j → V (9 + i) 0 = 0 ∨ V (9 + j) 0 = 0 → Q (some (.int (-6))) hm hs)
    (h2 : ∀ i j, i < 4 → j < 4 → r1 = nI i → r2 = nI j → ¬ V (9 + i) 0 = 0 → ¬ V (9 + j) 0 = 0 → ¬ V (9 + i) 1 = V (9 + j) 1 → Q (some (.int (-8))) hm hs)
    (h3 : ∀ i j, i < 4 → j < 4 → r1 = nI i → r2 = nI j → ¬ V (9 + i) 0 = 0 → ¬ V (9 + j) 0 = 0 → V (9 + i) 1 = V (9 + j) 1 → ¬ (((0 ≤ z ∧ z ≤ V (9 + i) 2) ∧ (0 ≤ a ∧ a ≤ V (9 + i) 2 - z)) ∧ ((0 ≤ z ∧ z ≤ V (9 + j) 2) ∧ (0 ≤ b ∧ b ≤ V (9 + j) 2 - z))) → Q (some (.int (-7))) hm hs)
    (hQ : ∀ i j z1 z2 zz a' b', i < 4 → j < 4 → r1 = nI i → r2 = nI j → ¬ V (9 + i) 0 = 0 → ¬ V (9 + j) 0 = 0 → V (9 + i) 1 = V (9 + j) 1 → V (9 + i) 2 = nI z1 → V (9 + j) 2 = nI z2 → z1 ≤ 12 → z2 ≤ 12 → z = nI zz → a = nI a' → b = nI b' → a' + zz ≤ z1 → b' + zz ≤ z2 → ∀ hm', TW hm' t pa pb qa qb V (va_up AA (9 + j) (va_up (AA (9 + j)) 3 (va_cpy (AA (9 + i) 3) (AA (9 + j) 3) a' b' zz))) R → sm t (t + 70) hm hm' → Q (some (.int 0)) hm' hs) :
    CC X EV (d + 2) 147 [.ref t, .int r1, .int a, .int r2, .int b, .int z] hm hs Q := by
  have hro := hW.ro
  refine c_of (ls2 := [.ref t, .int r1, .int a, .int r2, .int b, .int z, .null, .null]) Y147 (Nat.le_of_ble_eq_true rfl) rfl I147 ?_
  simp only [r_il1 dX9_paste_0, List.cons_append, List.nil_append, Nat.reduceAdd, Option.toList, z0]
  refine r_ist1 dX9_paste_1 M9_388 Y154 (Nat.le_of_ble_eq_true rfl) (Nat.le_refl _) (Nat.le_refl _) ?_
  refine c_isRow ?_
  simp only [r_if_eq (tgt := 14) dX9_paste_4 rfl, r_il3 dX9_paste_7, r_bipush dX9_paste_14 kbm2, r_iret dX9_paste_16 (Nat.zero_le _) (Nat.zero_le _), List.cons_append, List.nil_append, Nat.reduceAdd, Option.toList, z0]
  refine ⟨fun h => h0 (fun z => h z.1), fun h => ?_⟩
  refine r_ist1 dX9_paste_8 M9_388 Y154 (Nat.le_of_ble_eq_true rfl) (Nat.le_refl _) (Nat.le_refl _) ?_
  refine c_isRow ?_
  simp only [r_if_ne (tgt := 17) dX9_paste_11 rfl, r_bipush dX9_paste_14 kbm2, r_iret dX9_paste_16 (Nat.zero_le _) (Nat.zero_le _), r_al0 dX9_paste_17, r_getf dX9_paste_18 F9_66, r_il1 dX9_paste_21, r_aald dX9_paste_22, r_as6 dX9_paste_23, r_al0 dX9_paste_25, r_getf dX9_paste_26 F9_66, r_il3 dX9_paste_29, r_aald dX9_paste_30, r_as7 dX9_paste_31, List.cons_append, List.nil_append, Nat.reduceAdd, Option.toList, cat_f, cat_i, cat_n, cat_r, eq_self, g9_9, true_and, z0, hW.r, rd_own hW.r, hW.r, rd_own hW.r, th_0, th_1, th_2, th_3, th_4, th_5, th_6, th_7, th_8, th_9, hro, aR_rw]
  refine ⟨fun h' => ?_, fun h' => h0 (fun z => Classical.not_not.mp h' z.2)⟩
  obtain ⟨i, hi, rfl⟩ := in4 (Classical.not_not.mp h)
  obtain ⟨j, hj, rfl⟩ := in4 (Classical.not_not.mp h')
  simp only [nI_clamp (show i < 2 ^ 31 by omega), nI_clamp (show j < 2 ^ 31 by omega)]
  refine ⟨vp_in_nI (by omega) (by omega), vp_in_nI (by omega) (by omega), ?_⟩
  have hr := hW.rw hi
  have hr2 := hW.rw hj
  obtain ⟨z1, hz1, ez1⟩ := hsz i hi
  obtain ⟨z2, hz2, ez2⟩ := hsz j hj
  simp only [r_al6 dX9_paste_33, r_getf dX9_paste_35 F9_394, r_if_eq (tgt := 49) dX9_paste_38 rfl, r_al7 dX9_paste_41, r_getf dX9_paste_43 F9_394, r_if_ne (tgt := 52) dX9_paste_46 rfl, r_bipush dX9_paste_49 kbm6, r_iret dX9_paste_51 (Nat.zero_le _) (Nat.zero_le _), r_al6 dX9_paste_52, r_getf dX9_paste_54 F9_404, r_al7 dX9_paste_57, r_getf dX9_paste_59 F9_404, r_ic_eq (tgt := 68) dX9_paste_62 rfl, r_bipush dX9_paste_65 kbm8, r_iret dX9_paste_67 (Nat.zero_le _) (Nat.zero_le _), r_al6 dX9_paste_68, r_il2 dX9_paste_70, r_il5 dX9_paste_71, List.cons_append, List.nil_append, Nat.reduceAdd, Option.toList, g4_0, g4_1, z0, hr.r, rd_own hr.r, hr.r, rd_own hr.r, hr2.r, rd_own hr2.r, hr2.r, rd_own hr2.r]
  refine ⟨fun k1 => h1 i j hi hj rfl rfl (Or.inl k1), fun k1 => ⟨fun k2 => ⟨fun k3 => ?_, fun k3 => h2 i j hi hj rfl rfl k1 k2 k3⟩, fun k2 => h1 i j hi hj rfl rfl (Or.inr (Classical.not_not.mp k2))⟩⟩
  refine r_iv3 dX9_paste_73 M9_407 Y61 O61 (Nat.le_of_ble_eq_true rfl) (rcv_own hr.r) (Nat.le_refl _) (Nat.le_refl _) ?_
  refine c_hasPart hr ?_
  simp only [r_if_eq (tgt := 91) dX9_paste_76 rfl, r_al7 dX9_paste_79, r_il4 dX9_paste_81, r_il5 dX9_paste_83, r_bipush dX9_paste_91 kbm7, r_iret dX9_paste_93 (Nat.zero_le _) (Nat.zero_le _), List.cons_append, List.nil_append, Nat.reduceAdd, Option.toList, z0]
  refine ⟨fun k4 => h3 i j hi hj rfl rfl k1 k2 k3 (fun q => k4 q.1), fun k4 => ?_⟩
  refine r_iv3 dX9_paste_85 M9_407 Y61 O61 (Nat.le_of_ble_eq_true rfl) (rcv_own hr2.r) (Nat.le_refl _) (Nat.le_refl _) ?_
  refine c_hasPart hr2 ?_
  have hr3 := hr.r3
  have hr4 := hr2.r3
  simp (disch := first | omega | (simp only [List.length_cons, List.length_nil]; omega)) only [r_if_ne (tgt := 94) dX9_paste_88 rfl, r_bipush dX9_paste_91 kbm7, r_iret dX9_paste_93 (Nat.zero_le _) (Nat.zero_le _), r_al6 dX9_paste_94, r_getf dX9_paste_96 F9_398, r_il2 dX9_paste_99, r_al7 dX9_paste_100, r_getf dX9_paste_102 F9_398, r_il4 dX9_paste_105, r_il5 dX9_paste_107, r_copy dX9_paste_109 M9_410, r_iconst dX9_paste_112 ki0, r_iret dX9_paste_113 (Nat.zero_le _) (Nat.zero_le _), List.cons_append, List.length_cons, List.length_nil, List.nil_append, Nat.le_refl, Nat.reduceAdd, Nat.reduceLeDiff, Nat.zero_le, Option.toList, cpI_ok, g4_3, pk_un, pk_us, rd_up_eq, rd_up_ne, up_eq, up_ne, up_up, z0, hr.r, rd_own hr.r, hr.r3, rd_own hr.r3, hr2.r, rd_own hr2.r, hr2.r3, rd_own hr2.r3]
  refine ⟨fun k5 => ?_, fun k5 => h3 i j hi hj rfl rfl k1 k2 k3 (fun q => Classical.not_not.mp k5 q.2)⟩
  have k4 := Classical.not_not.mp k4
  have k5 := Classical.not_not.mp k5
  rw [ez1] at k4
  rw [ez2] at k5
  obtain ⟨zz, hzz, rfl⟩ := ixle (by omega) k4.1.1 k4.1.2
  have hle2 : zz ≤ z2 := by have := k5.1.2; rwa [nI_leI (by omega) (by omega)] at this
  rw [nI_sub hzz] at k4
  rw [nI_sub hle2] at k5
  obtain ⟨a', ha', rfl⟩ := ixle (by omega) k4.2.1 k4.2.2
  obtain ⟨b', hb', rfl⟩ := ixle (by omega) k5.2.1 k5.2.2
  simp only [nI_clamp (show a' < 2 ^ 31 by omega), nI_clamp (show b' < 2 ^ 31 by omega), nI_clamp (show zz < 2 ^ 31 by omega)]
  refine ⟨⟨⟨by grind, by grind, by grind⟩, by omega, by omega⟩, ?_⟩
  have := hW.s_rw hj (hr2.w3 (va_cpy (AA (9 + i) 3) (AA (9 + j) 3) a' b' zz)) (sm.rf.up (by omega))
  rw [va_self] at this
  exact hQ i j z1 z2 zz a' b' hi hj rfl rfl k1 k2 k3 ez1 ez2 hz1 hz2 rfl rfl rfl (by omega) (by omega) _ this (sm.rf.up (by omega))
theorem c_judge {r : Int32} (hW : TW hm t pa pb qa qb V AA R) (hz : SZ V AA n w h nl np nw nr) (hc : V 8 0 = 0 → siR (V 0) (AA 0) (AA 2) n nl np nw nr (AA 8)) (hsz : ∀ i, i < 4 → ∃ z, z ≤ 12 ∧ V (9 + i) 2 = nI z)
    (h0 : ¬ (0 ≤ r ∧ r < 4) → Q (some (.int (-2))) hm hs) (h1 : ∀ i, i < 4 → r = nI i → V (9 + i) 0 = 0 → Q (some (.int (-6))) hm hs)
    (hQ : ∀ i z, i < 4 → r = nI i → ¬ V (9 + i) 0 = 0 → V (9 + i) 2 = nI z → z ≤ 12 → ∀ hm' V' AA', TW hm' t pa pb qa qb V' AA' R → KX 8 V V' AA AA' → V' 8 0 = 0 → siR (V 0) (AA 0) (AA 2) n nl np nw nr (AA' 8) → sm t (t + 70) hm hm' →
      ∀ m, m ≤ min z np → (∀ q, q < m → (0 ≤ AA (9 + i) 3 q ∧ AA (9 + i) 3 q < nI nl) ∧ bt (AA' 8 3 q) (AA (9 + i) 3 q).toNatClampNeg = true) → (m < min z np → ¬ ((0 ≤ AA (9 + i) 3 m ∧ AA (9 + i) 3 m < nI nl) ∧ bt (AA' 8 3 m) (AA (9 + i) 3 m).toNatClampNeg = true)) → Q (some (.int (nI m))) hm' hs) : CC X EV (d + 5) 150 [.ref t, .int r] hm hs Q := by
  obtain ⟨-, -, -, ⟨e3, l3⟩, ⟨e4, l4⟩, -⟩ := id hz
  have hro := hW.ro
  refine c_of (ls2 := [.ref t, .int r, .null, .null, .null, .null]) Y150 (Nat.le_of_ble_eq_true rfl) rfl I150 ?_
  simp only [r_il1 dX9_judge_0, List.cons_append, List.nil_append, Nat.reduceAdd, Option.toList, z0]
  refine r_ist1 dX9_judge_1 M9_388 Y154 (Nat.le_of_ble_eq_true rfl) (Nat.le_refl _) (Nat.le_refl _) ?_
  refine c_isRow ?_
  simp only [r_if_ne (tgt := 10) dX9_judge_4 rfl, r_bipush dX9_judge_7 kbm2, r_iret dX9_judge_9 (Nat.zero_le _) (Nat.zero_le _), r_al0 dX9_judge_10, r_getf dX9_judge_11 F9_66, r_il1 dX9_judge_14, r_aald dX9_judge_15, r_as2 dX9_judge_16, List.cons_append, List.nil_append, Nat.reduceAdd, Option.toList, cat_f, cat_i, cat_n, cat_r, eq_self, g9_9, true_and, z0, hW.r, rd_own hW.r, hW.r, rd_own hW.r, th_0, th_1, th_2, th_3, th_4, th_5, th_6, th_7, th_8, th_9, hro, aR_rw]
  refine ⟨fun hk => ?_, fun hk => h0 (Classical.not_not.mp hk)⟩
  obtain ⟨i, hi, rfl⟩ := in4 (Classical.not_not.mp hk)
  obtain ⟨z, hz12, ez⟩ := hsz i hi
  have hr := hW.rw hi
  simp only [nI_clamp (show i < 2 ^ 31 by omega)]
  refine ⟨vp_in_nI (by omega) (by omega), ?_⟩
  simp only [r_al2 dX9_judge_17, r_getf dX9_judge_18 F9_394, r_if_ne (tgt := 27) dX9_judge_21 rfl, r_bipush dX9_judge_24 kbm6, r_iret dX9_judge_26 (Nat.zero_le _) (Nat.zero_le _), r_al0 dX9_judge_27, r_getf dX9_judge_28 F9_60, r_al0 dX9_judge_31, r_getf dX9_judge_32 F9_10, r_al0 dX9_judge_35, r_getf dX9_judge_36 F9_22, List.cons_append, List.nil_append, Nat.reduceAdd, Option.toList, g4_0, g9_0, g9_2, g9_8, z0, hr.r, rd_own hr.r, hr.r, rd_own hr.r, hW.r, rd_own hW.r, hW.r, rd_own hW.r, th_0, th_1, th_2, th_3, th_4, th_5, th_6, th_7, th_8, th_9]
  refine ⟨fun k1 => ?_, fun k1 => h1 i hi rfl (Classical.not_not.mp k1)⟩
  refine r_iv3 dX9_judge_39 M9_275 Y82 O82 (Nat.le_of_ble_eq_true rfl) (rcv_own hW.si.r) (Nat.le_refl _) (Nat.le_refl _) ?_
  refine c_look hW hz hc (fun hm' V' AA' hW' k2 k3 k4 k5 => ?_)
  have hQ := hQ i z hi rfl k1 ez hz12 hm' V' AA' hW' k2 k3 k4 (k5.wide (by omega))
  have hr' := hW'.rw hi
  rw [(k2 (9 + i) (by omega)).1, (k2 (9 + i) (by omega)).2] at hr'
  rw [← (k2 2 (by decide)).1] at e3 e4
  have hsc := hW'.sc
  have hsi := hW'.si
  simp only [r_iconst dX9_judge_42 ki0, r_is3 dX9_judge_43, r_iconst dX9_judge_44 ki0, r_is4 dX9_judge_45, List.cons_append, List.nil_append, Nat.reduceAdd, Option.toList, cat_f, cat_i, cat_n, cat_r, eq_self, true_and, z0]
  suffices H : ∀ m, m ≤ min z np → ∀ x, (∀ q, q < m → (0 ≤ AA (9 + i) 3 q ∧ AA (9 + i) 3 q < nI nl) ∧ bt (AA' 8 3 q) (AA (9 + i) 3 q).toNatClampNeg = true) → E1 X EV (d + 4) 9 0 0 (some .int) false cX9_judge Q 47 [.ref t, .int (nI i), .ref (t + 62 + 2 * i), .int (nI m), .int (nI m), x] [] 0 0 hm' hs from H 0 (by omega) _ (fun q hq => absurd hq (Nat.not_lt_zero q))
  refine up_loop (min z np) _ ?_ ?_
  · intro x hall
    have hQ := hQ (min z np) (Nat.le_refl _) hall (fun h => absurd h (Nat.lt_irrefl _))
    simp only [r_il4 dX9_judge_47, r_al2 dX9_judge_49, r_getf dX9_judge_50 F9_397, r_ic_ge (tgt := 119) dX9_judge_53 rfl, r_il4 dX9_judge_56, r_al0 dX9_judge_58, r_getf dX9_judge_59 F9_22, r_getf dX9_judge_62 F9_321, r_ic_ge (tgt := 119) dX9_judge_65 rfl, r_al2 dX9_judge_68, r_getf dX9_judge_69 F9_398, r_il4 dX9_judge_72, r_iald dX9_judge_74, r_is5 dX9_judge_75, r_al0 dX9_judge_77, r_getf dX9_judge_78 F9_22, r_il5 dX9_judge_81, r_il3 dX9_judge_119, r_iret dX9_judge_120 (Nat.zero_le _) (Nat.zero_le _), List.cons_append, List.nil_append, Nat.reduceAdd, Option.toList, aI_ok, cat_f, cat_i, cat_n, cat_r, eq_self, g4_2, g4_3, g5_1, g9_2, true_and, z0, hr'.r, rd_own hr'.r, hr'.r, rd_own hr'.r, ez, hW'.r, rd_own hW'.r, hW'.r, rd_own hW'.r, th_0, th_1, th_2, th_3, th_4, th_5, th_6, th_7, th_8, th_9, hsc.r, rd_own hsc.r, hsc.r, rd_own hsc.r, e4]
    simp (disch := omega) only [E2, nI_1, nI_add, nI_leI, nI_ltI, nI_eq, nI_clamp]
    refine ⟨fun _ => hQ, fun h2 => ⟨fun _ => hQ, fun h3 => absurd h3 (by omega)⟩⟩
  · intro m hm0 ih x hall
    simp only [r_il4 dX9_judge_47, r_al2 dX9_judge_49, r_getf dX9_judge_50 F9_397, r_ic_ge (tgt := 119) dX9_judge_53 rfl, r_il4 dX9_judge_56, r_al0 dX9_judge_58, r_getf dX9_judge_59 F9_22, r_getf dX9_judge_62 F9_321, r_ic_ge (tgt := 119) dX9_judge_65 rfl, r_al2 dX9_judge_68, r_getf dX9_judge_69 F9_398, r_il4 dX9_judge_72, r_iald dX9_judge_74, r_is5 dX9_judge_75, r_al0 dX9_judge_77, r_getf dX9_judge_78 F9_22, r_il5 dX9_judge_81, r_il3 dX9_judge_119, r_iret dX9_judge_120 (Nat.zero_le _) (Nat.zero_le _), List.cons_append, List.nil_append, Nat.reduceAdd, Option.toList, aI_ok, cat_f, cat_i, cat_n, cat_r, eq_self, g4_2, g4_3, g5_1, g9_2, true_and, z0, hr'.r, rd_own hr'.r, hr'.r3, rd_own hr'.r3, ez, hW'.r, rd_own hW'.r, hW'.r, rd_own hW'.r, th_0, th_1, th_2, th_3, th_4, th_5, th_6, th_7, th_8, th_9, hsc.r, rd_own hsc.r, hsc.r, rd_own hsc.r, e4]
    simp (disch := omega) only [E2, nI_1, nI_add, nI_leI, nI_ltI, nI_eq, nI_clamp]
    refine ⟨fun h => absurd h (by omega), fun _ => ⟨fun h => absurd h (by omega), fun _ => ⟨vp_in_nI (by omega) (by omega), ?_⟩⟩⟩
    refine r_iv2 dX9_judge_83 M9_153 Y64 O64 (Nat.le_of_ble_eq_true rfl) (rcv_own hsc.r) (Nat.le_refl _) (Nat.le_refl _) ?_
    refine c_hasLetter hsc ?_
    rw [e3]
    simp only [r_if_eqB (tgt := 119) dX9_judge_86 rfl, r_al0 dX9_judge_89, r_getf dX9_judge_90 F9_60, r_getf dX9_judge_93 F9_293, r_il4 dX9_judge_96, r_iald dX9_judge_98, r_il5 dX9_judge_99, r_ishr dX9_judge_101, r_iconst dX9_judge_102 ki1, r_iand dX9_judge_103, r_if_ne (tgt := 110) dX9_judge_104 rfl, r_gotoB (tgt := 119) dX9_judge_107 rfl, r_ii3 dX9_judge_110 kn1, r_ii4 dX9_judge_113 kn1, r_gotoB (tgt := 47) dX9_judge_116 rfl, List.cons_append, List.nil_append, Nat.reduceAdd, Option.toList, aI_ok, cat_f, cat_i, cat_n, cat_r, eq_self, g6_3, g9_8, true_and, z0, hW'.r, rd_own hW'.r, hW'.r, rd_own hW'.r, th_0, th_1, th_2, th_3, th_4, th_5, th_6, th_7, th_8, th_9, hsi.r, rd_own hsi.r, hsi.r3, rd_own hsi.r3, nI_clamp (show m < 2 ^ 31 by omega)]
    have stop : ¬ ((0 ≤ AA (9 + i) 3 m ∧ AA (9 + i) 3 m < nI nl) ∧ bt (AA' 8 3 m) (AA (9 + i) 3 m).toNatClampNeg = true) → ∀ x, E1 X EV (d + 4) 9 0 0 (some .int) false cX9_judge Q 119 [.ref t, .int (nI i), .ref (t + 62 + 2 * i), .int (nI m), .int (nI m), x] [] 0 0 hm' hs := by
      intro hno x
      simp only [r_il3 dX9_judge_119, r_iret dX9_judge_120 (Nat.zero_le _) (Nat.zero_le _), List.cons_append, List.nil_append, Nat.reduceAdd, Option.toList, z0]
      exact hQ m (by omega) hall (fun _ => hno)
    refine ⟨fun h5 => ?_, fun h5 => ⟨vp_in_nI (by omega) (by omega), ?_⟩⟩
    · simp (disch := omega) only [E2, nI_1, nI_add, nI_leI, nI_ltI, nI_eq, nI_clamp]
      exact stop (fun q => h5 q.1) _
    obtain ⟨j, hj, ej⟩ := ix (n := nl) (by omega) (Classical.not_not.mp h5)
    rw [ej, tst0 (show j < 32 by omega)]
    refine ⟨fun h6 => ?_, fun h6 => ?_⟩
    · simp (disch := omega) only [E2, nI_1, nI_add, nI_leI, nI_ltI, nI_eq, nI_clamp]
      rw [← ej]
      refine ih _ (fun q hq => ?_)
      rcases Nat.lt_or_ge q m with h' | h'
      · exact hall q h'
      · rw [show q = m by omega]
        refine ⟨Classical.not_not.mp h5, ?_⟩
        rw [ej, nI_clamp (by omega)]
        simpa using h6
    · simp (disch := omega) only [E2, nI_1, nI_add, nI_leI, nI_ltI, nI_eq, nI_clamp]
      rw [← ej]
      refine stop (fun q => ?_) _
      rw [ej, nI_clamp (by omega)] at q
      rw [Classical.not_not.mp h6] at q
      exact absurd q.2 (by decide)
theorem c_feed {a b c e f : Int32} {z : Nat} (hW : TW hm t pa pb qa qb V AA R) (ez : V 4 0 = nI z) (hz : z ≤ 900) (h0 : ¬ z + 20 ≤ 900 → Q (some (.int (-3))) hm hs)
    (hQ : z + 20 ≤ 900 → ∀ hm' A', TW hm' t pa pb qa qb (va_up V 4 (upd (V 4) 0 (nI (z + 20)))) (va_up AA 4 A') R → (∀ q, A' 1 q = if z ≤ q ∧ q < z + 20 then ((if q < z + 4 then a else if q < z + 8 then b else if q < z + 12 then c else if q < z + 16 then e else f) >>> (nI (24 - 8 * ((q - z) % 4)) &&& 31)) &&& 255 else AA 4 1 q) → sm t (t + 70) hm hm' → Q (some (.int (nI (z + 20)))) hm' hs) :
    CC X EV (d + 2) 100 [.ref t, .int a, .int b, .int c, .int e, .int f] hm hs Q := by
  have hp := hW.tp
  have hF : (fun _ : Nat => (0 : Int32)) = (fun _ => 0) := rfl
  refine c_of (ls2 := [.ref t, .int a, .int b, .int c, .int e, .int f]) Y100 (Nat.le_of_ble_eq_true rfl) rfl I100 ?_
  simp only [r_al0 dX9_feed_0, r_getf dX9_feed_1 F9_32, r_getf dX9_feed_4 F9_78, r_bipush dX9_feed_7 kb20, r_iadd dX9_feed_9, r_sipush dX9_feed_10 ks900, r_ic_le (tgt := 19) dX9_feed_13 rfl, r_bipush dX9_feed_16 kbm3, r_iret dX9_feed_18 (Nat.zero_le _) (Nat.zero_le _), r_al0 dX9_feed_19, r_getf dX9_feed_20 F9_32, r_il1 dX9_feed_23, List.cons_append, List.nil_append, Nat.reduceAdd, Option.toList, g8_0, g9_4, z0, hW.r, rd_own hW.r, hW.r, rd_own hW.r, th_0, th_1, th_2, th_3, th_4, th_5, th_6, th_7, th_8, th_9, hp.r, rd_own hp.r, hp.r, rd_own hp.r, ez, show (20 : Int32) = nI 20 from rfl, show (900 : Int32) = nI 900 from rfl]
  simp (disch := omega) only [E2, nI_1, nI_add, nI_leI, nI_ltI, nI_eq, nI_clamp]
  refine ⟨fun k => ?_, fun k => h0 k⟩
  refine r_iv2 dX9_feed_24 M9_81 Y98 O98 (Nat.le_of_ble_eq_true rfl) (rcv_own hp.r) (Nat.le_refl _) (Nat.le_refl _) ?_
  refine c_addInt (F := fun _ => 0) (n := z) hp ez (by omega) (fun hm1 A1 hp1 g1 s1 => ?_)
  have hW1 := hW.s_tp hp1 s1
  simp only [r_al0 dX9_feed_27, r_getf dX9_feed_28 F9_32, r_il2 dX9_feed_31, List.cons_append, List.nil_append, Nat.reduceAdd, Option.toList, g9_4, z0, hW1.r, rd_own hW1.r, hW1.r, rd_own hW1.r, th_0, th_1, th_2, th_3, th_4, th_5, th_6, th_7, th_8, th_9]
  refine r_iv2 dX9_feed_32 M9_81 Y98 O98 (Nat.le_of_ble_eq_true rfl) (rcv_own hW1.tp.r) (Nat.le_refl _) (Nat.le_refl _) ?_
  refine c_addInt (F := fun _ => 0) (n := z + 4) hW1.tp (by rw [vu_eq, pk_us]) (by omega) (fun hm2 A2 hp2 g2 s2 => ?_)
  have hW2 := hW1.s_tp hp2 s2
  simp only [r_al0 dX9_feed_35, r_getf dX9_feed_36 F9_32, r_il3 dX9_feed_39, List.cons_append, List.nil_append, Nat.reduceAdd, Option.toList, g9_4, z0, hW2.r, rd_own hW2.r, hW2.r, rd_own hW2.r, th_0, th_1, th_2, th_3, th_4, th_5, th_6, th_7, th_8, th_9]
  refine r_iv2 dX9_feed_40 M9_81 Y98 O98 (Nat.le_of_ble_eq_true rfl) (rcv_own hW2.tp.r) (Nat.le_refl _) (Nat.le_refl _) ?_
  refine c_addInt (F := fun _ => 0) (n := z + 8) hW2.tp (by rw [vu_eq, pk_us]) (by omega) (fun hm3 A3 hp3 g3 s3 => ?_)
  have hW3 := hW2.s_tp hp3 s3
  simp only [r_al0 dX9_feed_43, r_getf dX9_feed_44 F9_32, r_il4 dX9_feed_47, List.cons_append, List.nil_append, Nat.reduceAdd, Option.toList, g9_4, z0, hW3.r, rd_own hW3.r, hW3.r, rd_own hW3.r, th_0, th_1, th_2, th_3, th_4, th_5, th_6, th_7, th_8, th_9]
  refine r_iv2 dX9_feed_49 M9_81 Y98 O98 (Nat.le_of_ble_eq_true rfl) (rcv_own hW3.tp.r) (Nat.le_refl _) (Nat.le_refl _) ?_
  refine c_addInt (F := fun _ => 0) (n := z + 12) hW3.tp (by rw [vu_eq, pk_us]) (by omega) (fun hm4 A4 hp4 g4 s4 => ?_)
  have hW4 := hW3.s_tp hp4 s4
  simp only [r_al0 dX9_feed_52, r_getf dX9_feed_53 F9_32, r_il5 dX9_feed_56, List.cons_append, List.nil_append, Nat.reduceAdd, Option.toList, g9_4, z0, hW4.r, rd_own hW4.r, hW4.r, rd_own hW4.r, th_0, th_1, th_2, th_3, th_4, th_5, th_6, th_7, th_8, th_9]
  refine r_iv2 dX9_feed_58 M9_81 Y98 O98 (Nat.le_of_ble_eq_true rfl) (rcv_own hW4.tp.r) (Nat.le_refl _) (Nat.le_refl _) ?_
  refine c_addInt (F := fun _ => 0) (n := z + 16) hW4.tp (by rw [vu_eq, pk_us]) (by omega) (fun hm5 A5 hp5 g5 s5 => ?_)
  have hW5 := hW4.s_tp hp5 s5
  simp only [r_al0 dX9_feed_61, r_getf dX9_feed_62 F9_32, r_getf dX9_feed_65 F9_78, r_iret dX9_feed_68 (Nat.zero_le _) (Nat.zero_le _), List.cons_append, List.nil_append, Nat.reduceAdd, Option.toList, g8_0, g9_4, z0, hW5.r, rd_own hW5.r, hW5.r, rd_own hW5.r, th_0, th_1, th_2, th_3, th_4, th_5, th_6, th_7, th_8, th_9, hp5.r, rd_own hp5.r, hp5.r, rd_own hp5.r, pk_us]
  rw [vu_eq, upd_upd, vu_eq, upd_upd, vu_eq, upd_upd, vu_eq, upd_upd, va_va, va_va, va_va, va_va, va_va, va_va, va_va, va_va] at hW5
  have hs : sm (t + 43) (t + 45) hm hm5 := (((s1.trans s2).trans s3).trans s4).trans s5
  refine hQ k hm5 A5 hW5 (fun q => ?_) (hs.wide (by omega))
  rw [g5 q, vu_eq, g4 q, vu_eq, g3 q, vu_eq, g2 q, vu_eq, g1 q]
  clear g1 g2 g3 g4 g5 hQ
  by_cases q0 : z ≤ q ∧ q < z + 20
  · rw [if_pos q0]
    by_cases q1 : q < z + 4
    · rw [if_neg (by omega), if_neg (by omega), if_neg (by omega), if_neg (by omega), if_pos (by omega), if_pos q1, show (q - z) % 4 = q - z by omega]
    · rw [if_neg q1]
      by_cases q2 : q < z + 8
      · rw [if_neg (by omega), if_neg (by omega), if_neg (by omega), if_pos (by omega), if_pos q2, show (q - z) % 4 = q - (z + 4) by omega]
      · rw [if_neg q2]
        by_cases q3 : q < z + 12
        · rw [if_neg (by omega), if_neg (by omega), if_pos (by omega), if_pos q3, show (q - z) % 4 = q - (z + 8) by omega]
        · rw [if_neg q3]
          by_cases q4 : q < z + 16
          · rw [if_neg (by omega), if_pos (by omega), if_pos q4, show (q - z) % 4 = q - (z + 12) by omega]
          · rw [if_pos (by omega), if_neg q4, show (q - z) % 4 = q - (z + 16) by omega]
  · rw [if_neg q0, if_neg (by omega), if_neg (by omega), if_neg (by omega), if_neg (by omega), if_neg (by omega)]
end Q7
