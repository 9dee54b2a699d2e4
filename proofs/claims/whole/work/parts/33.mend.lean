section Q9
variable {X : HM} {EV : Nat → Value} {d : Nat} {hm : HM} {hs : Nat} {Q : QT} {t pa pb qa qb : Nat} {V : Nat → Nat → Int32} {AA : Nat → Nat → Nat → Int32} {R : Nat → Int64} {B n w h nl np nw nr : Nat} {p : Nat} {u : Nat → Int32} {A : Nat → Nat → Int32}
theorem mnd_u2 (N : Nat → Int32) (k : Nat) (s : MS) (j : Nat) (hj : j ≠ 3) : (mnd n N k s).1 j = s.1 j := by
  induction k with
  | zero => rfl
  | succ k ih =>
    rw [mnd]
    split
    · show upd _ 3 _ j = _
      rw [pk_un hj]; exact ih
    · exact ih
theorem c_mendSparePage {r z : Nat} (hW : TW hm t pa pb qa qb V AA R) (e2 : V 0 2 = nI n) (l2 : n ≤ 12) (hr : r < 4) (ez : V (9 + r) 2 = nI z) (hz : z ≤ 12)
    (hQ : ∀ hm' u0 A0, u0 = upd (upd (upd (V 1) 2 (V 0 2)) 4 (V 0 4)) 5 (V 0 5) → (∀ k, k < 12 → A0 10 k = AA 0 10 k ∧ A0 11 k = AA 0 11 k ∧ A0 12 k = AA 0 12 k ∧ A0 13 k = AA 0 13 k) → TW hm' t pa pb qa qb (va_up V 1 (mnd n (AA (9 + r) 3) (z / 2) (u0, A0, 0)).1) (va_up AA 1 (mnd n (AA (9 + r) 3) (z / 2) (u0, A0, 0)).2.1) R → sm t (t + 70) hm hm' → Q (some (.int (mnd n (AA (9 + r) 3) (z / 2) (u0, A0, 0)).2.2)) hm' hs) :
    CC X EV (d + 4) 149 [.ref t, .ref (t + 62 + 2 * r)] hm hs Q := by
  have had := hW.ad
  unfold adO at had
  refine c_of (ls2 := [.ref t, .ref (t + 62 + 2 * r), .null, .null, .null, .null]) Y149 (Nat.le_of_ble_eq_true rfl) rfl I149 ?_
  simp only [r_al0 dX9_mendSparePage_0, r_getf dX9_mendSparePage_1 F9_16, r_al0 dX9_mendSparePage_4, r_getf dX9_mendSparePage_5 F9_10, List.cons_append, List.nil_append, Nat.reduceAdd, Option.toList, g9_0, g9_1, z0, hW.r, rd_own hW.r, hW.r, rd_own hW.r, th_0, th_1, th_2, th_3, th_4, th_5, th_6, th_7, th_8, th_9]
  refine r_iv2 dX9_mendSparePage_8 M9_425 Y5 O5 (Nat.le_of_ble_eq_true rfl) (rcv_own hW.sp.r) (Nat.le_refl _) (Nat.le_refl _) ?_
  refine c_copyLinksOf hW.sp hW.pg (by omega) (fun hm1 A1 hP1 g1 g2 s1 => ?_)
  have hQ := fun hm' => hQ hm' _ A1 rfl g2
  obtain ⟨u1, eu1⟩ : ∃ u1, u1 = upd (upd (upd (V 1) 2 (V 0 2)) 4 (V 0 4)) 5 (V 0 5) := ⟨_, rfl⟩
  have hu1 : u1 2 = nI n := by rw [eu1, pk_un (by decide), pk_un (by decide), pk_us]; exact e2
  rw [← eu1] at hQ hP1
  have hW1 := hW.s_sp hP1 s1
  obtain ⟨N, eN⟩ : ∃ N, N = AA (9 + r) 3 := ⟨_, rfl⟩
  rw [← eN] at hQ
  simp only [r_iconst dX9_mendSparePage_11 ki0, r_is2 dX9_mendSparePage_12, r_iconst dX9_mendSparePage_13 ki0, r_is3 dX9_mendSparePage_14, List.cons_append, List.nil_append, Nat.reduceAdd, Option.toList, cat_f, cat_i, cat_n, cat_r, eq_self, true_and, z0]
  suffices H : ∀ k, k ≤ z / 2 → ∀ x y hm', TW hm' t pa pb qa qb (va_up V 1 (mnd n N k (u1, A1, 0)).1) (va_up AA 1 (mnd n N k (u1, A1, 0)).2.1) R → sm t (t + 70) hm hm' → E1 X EV (d + 3) 9 0 0 (some .int) false cX9_mendSparePage Q 15 [.ref t, .ref (t + 62 + 2 * r), .int (mnd n N k (u1, A1, 0)).2.2, .int (nI k), x, y] [] 0 0 hm' hs from
    H 0 (by omega) _ _ hm1 hW1 (s1.wide (by omega))
  have e1 : ∀ k, (2 : Int32) * nI k + 1 = nI (2 * k + 1) := fun k => by rw [show (2 : Int32) = nI 2 from rfl, pk_mul, nI_1]
  have e0 : ∀ k, (2 : Int32) * nI k = nI (2 * k) := fun k => by rw [show (2 : Int32) = nI 2 from rfl, pk_mul]
  have hrow : ∀ hm' V1 A1, TW hm' t pa pb qa qb (va_up V 1 V1) (va_up AA 1 A1) R → RW hm' (t + 62 + 2 * r) (V (9 + r)) (AA (9 + r)) := by
    intro hm' V1 A1 hW'
    have := hW'.rw hr
    rw [vu_ne (by omega), vu_ne (by omega)] at this
    exact this
  refine up_loop (z / 2) _ ?_ ?_
  · intro x y hm' hW' s'
    have hr' := hrow _ _ _ hW'
    simp only [r_iconst dX9_mendSparePage_15 ki2, r_il3 dX9_mendSparePage_16, r_imul dX9_mendSparePage_17, r_iconst dX9_mendSparePage_18 ki1, r_iadd dX9_mendSparePage_19, r_al1 dX9_mendSparePage_20, r_getf dX9_mendSparePage_21 F9_397, r_ic_ge (tgt := 89) dX9_mendSparePage_24 rfl, r_al1 dX9_mendSparePage_27, r_getf dX9_mendSparePage_28 F9_398, r_iconst dX9_mendSparePage_31 ki2, r_il3 dX9_mendSparePage_32, r_imul dX9_mendSparePage_33, r_iald dX9_mendSparePage_34, r_is4 dX9_mendSparePage_35, r_al1 dX9_mendSparePage_37, r_getf dX9_mendSparePage_38 F9_398, r_iconst dX9_mendSparePage_41 ki2, r_il3 dX9_mendSparePage_42, r_imul dX9_mendSparePage_43, r_iconst dX9_mendSparePage_44 ki1, r_iadd dX9_mendSparePage_45, r_iald dX9_mendSparePage_46, r_is5 dX9_mendSparePage_47, r_al0 dX9_mendSparePage_49, r_getf dX9_mendSparePage_50 F9_16, r_il4 dX9_mendSparePage_53, r_il5 dX9_mendSparePage_55, r_il2 dX9_mendSparePage_89, r_iret dX9_mendSparePage_90 (Nat.zero_le _) (Nat.zero_le _), List.cons_append, List.nil_append, Nat.reduceAdd, Option.toList, aI_ok, cat_f, cat_i, cat_n, cat_r, eq_self, g4_2, g4_3, g9_1, true_and, z0, hr'.r, rd_own hr'.r, hr'.r, rd_own hr'.r, ez, e1]
    simp (disch := omega) only [E2, nI_1, nI_add, nI_leI, nI_ltI, nI_eq, nI_clamp]
    exact ⟨fun _ => hQ hm' hW' s', fun h => absurd (by omega) h⟩
  · intro k hk ih x y hm' hW' s'
    have hr' := hrow _ _ _ hW'
    have hsp := hW'.sp
    rw [vu_eq, vu_eq] at hsp
    rw [mnd] at ih
    have hu : (mnd n N k (u1, A1, 0)).1 2 = nI n := (mnd_u2 N k (u1, A1, 0) 2 (by decide)).trans hu1
    generalize mnd n N k (u1, A1, 0) = s at ih hW' hsp hu ⊢
    simp only [r_iconst dX9_mendSparePage_15 ki2, r_il3 dX9_mendSparePage_16, r_imul dX9_mendSparePage_17, r_iconst dX9_mendSparePage_18 ki1, r_iadd dX9_mendSparePage_19, r_al1 dX9_mendSparePage_20, r_getf dX9_mendSparePage_21 F9_397, r_ic_ge (tgt := 89) dX9_mendSparePage_24 rfl, r_al1 dX9_mendSparePage_27, r_getf dX9_mendSparePage_28 F9_398, r_iconst dX9_mendSparePage_31 ki2, r_il3 dX9_mendSparePage_32, r_imul dX9_mendSparePage_33, r_iald dX9_mendSparePage_34, r_is4 dX9_mendSparePage_35, r_al1 dX9_mendSparePage_37, r_getf dX9_mendSparePage_38 F9_398, r_iconst dX9_mendSparePage_41 ki2, r_il3 dX9_mendSparePage_42, r_imul dX9_mendSparePage_43, r_iconst dX9_mendSparePage_44 ki1, r_iadd dX9_mendSparePage_45, r_iald dX9_mendSparePage_46, r_is5 dX9_mendSparePage_47, r_al0 dX9_mendSparePage_49, r_getf dX9_mendSparePage_50 F9_16, r_il4 dX9_mendSparePage_53, r_il5 dX9_mendSparePage_55, r_il2 dX9_mendSparePage_89, r_iret dX9_mendSparePage_90 (Nat.zero_le _) (Nat.zero_le _), List.cons_append, List.nil_append, Nat.reduceAdd, Option.toList, aI_ok, cat_f, cat_i, cat_n, cat_r, eq_self, g4_2, g4_3, g9_1, true_and, z0, hr'.r, rd_own hr'.r, hr'.r3, rd_own hr'.r3, ez, e1, e0, hW'.r, rd_own hW'.r, hW'.r, rd_own hW'.r, th_0, th_1, th_2, th_3, th_4, th_5, th_6, th_7, th_8, th_9, ← eN]
    simp (disch := omega) only [E2, nI_1, nI_add, nI_leI, nI_ltI, nI_eq, nI_clamp]
    refine ⟨fun h => absurd h (by omega), fun _ => ⟨vp_in_nI (by omega) (by omega), vp_in_nI (by omega) (by omega), ?_⟩⟩
    refine r_ist3 dX9_mendSparePage_57 M9_109 Y110 (Nat.le_of_ble_eq_true rfl) (Nat.le_refl _) (Nat.le_refl _) ?_
    refine c_refusal hsp hu l2 ?_
    simp only [r_if_ne (tgt := 77) dX9_mendSparePage_60 rfl, r_al0 dX9_mendSparePage_63, r_getf dX9_mendSparePage_64 F9_16, r_il4 dX9_mendSparePage_67, r_il5 dX9_mendSparePage_69, r_il2 dX9_mendSparePage_77, r_iconst dX9_mendSparePage_78 ki1, r_il3 dX9_mendSparePage_79, r_ishl dX9_mendSparePage_80, r_ior dX9_mendSparePage_81, r_is2 dX9_mendSparePage_82, r_ii3 dX9_mendSparePage_83 kn1, r_gotoB (tgt := 15) dX9_mendSparePage_86 rfl, List.cons_append, List.nil_append, Nat.reduceAdd, Option.toList, cat_f, cat_i, cat_n, cat_r, eq_self, g9_1, true_and, z0, hW'.r, rd_own hW'.r, hW'.r, rd_own hW'.r, th_0, th_1, th_2, th_3, th_4, th_5, th_6, th_7, th_8, th_9]
    refine ⟨fun h => ?_, fun h => ?_⟩
    · simp (disch := omega) only [E2, nI_1, nI_add, nI_leI, nI_ltI, nI_eq, nI_clamp]
      rw [if_neg h] at ih
      exact ih _ _ hm' hW' s'
    · have h := Classical.not_not.mp h
      rw [if_pos h] at ih
      obtain ⟨i, j, hi, hj, ea, eb⟩ := refV0 (by rw [h]; decide) l2
      rw [ea, eb]
      rw [ea, eb, nI_clamp (by omega), nI_clamp (by omega)] at ih
      refine r_iv3 dX9_mendSparePage_71 M9_117 Y19 O19 (Nat.le_of_ble_eq_true rfl) (rcv_own hsp.r) (Nat.le_refl _) (Nat.le_refl _) ?_
      refine c_link2 hsp hu l2 (by omega) (by omega) (fun hm2 hP2 s2 => ?_)
      have hW2 := hW'.s_sp hP2 s2
      rw [va_va, va_va] at hW2
      simp only [r_goto (tgt := 83) dX9_mendSparePage_74 rfl, r_ii3 dX9_mendSparePage_83 kn1, r_gotoB (tgt := 15) dX9_mendSparePage_86 rfl, List.cons_append, List.nil_append, Nat.reduceAdd, Option.toList, cat_f, cat_i, cat_n, cat_r, eq_self, true_and, z0]
      simp (disch := omega) only [E2, nI_1, nI_add, nI_leI, nI_ltI, nI_eq, nI_clamp]
      exact ih _ _ hm2 hW2 (s'.trans (s2.wide (by omega)))
theorem c_mending {r wh : Int32} (hW : TW hm t pa pb qa qb V AA R) (e2 : V 0 2 = nI n) (l2 : n ≤ 12) (hsz : ∀ i, i < 4 → ∃ z, z ≤ 12 ∧ V (9 + i) 2 = nI z)
    (h0 : ¬ ((0 ≤ r ∧ r < 4) ∧ (0 ≤ wh ∧ wh ≤ 1)) → Q (some (.long (-2))) hm hs)
    (h1 : ∀ i, i < 4 → r = nI i → (0 ≤ wh ∧ wh ≤ 1) → V (9 + i) 0 = 0 → Q (some (.long (-6))) hm hs)
    (hQ : ∀ i z, i < 4 → r = nI i → (0 ≤ wh ∧ wh ≤ 1) → ¬ V (9 + i) 0 = 0 → V (9 + i) 2 = nI z → z ≤ 12 → ∀ hm' V' AA' u0 A0, u0 = upd (upd (upd (V 1) 2 (V 0 2)) 4 (V 0 4)) 5 (V 0 5) → (∀ k, k < 12 → A0 10 k = AA 0 10 k ∧ A0 11 k = AA 0 11 k ∧ A0 12 k = AA 0 12 k ∧ A0 13 k = AA 0 13 k) → TW hm' t pa pb qa qb V' AA' R → (∀ k, k ≠ 1 → k ≠ 7 → V' k = V k ∧ AA' k = AA k) → sm t (t + 70) hm hm' →
      (wh = 1 → V' 7 = V 7 → AA' 7 = AA 7 → Q (some (.long (mnd n (AA (9 + i) 3) (z / 2) (u0, A0, 0)).2.2.toInt64)) hm' hs) ∧
      (wh ≠ 1 → ∀ T0 : Nat → Int32, V' 7 = upd (V 7) 0 1 → (∀ s, s ≠ 3 → AA' 7 s = AA 7 s) → T0 0 = 1 → (∀ s, 1 ≤ s → s < 2 ^ n → T0 s = 0) → Q (some (.long (pal ((mnd n (AA (9 + i) 3) (z / 2) (u0, A0, 0)).2.1 12) n (2 ^ n - 1) T0 (2 ^ n - 1)).toInt64)) hm' hs)) :
    CC X EV (d + 5) 148 [.ref t, .int r, .int wh] hm hs Q := by
  have had := hW.ad
  unfold adO at had
  have hro := hW.ro
  refine c_of (ls2 := [.ref t, .int r, .int wh, .null]) Y148 (Nat.le_of_ble_eq_true rfl) rfl I148 ?_
  simp only [r_il1 dX9_mending_0, List.cons_append, List.nil_append, Nat.reduceAdd, Option.toList, z0]
  refine r_ist1 dX9_mending_1 M9_388 Y154 (Nat.le_of_ble_eq_true rfl) (Nat.le_refl _) (Nat.le_refl _) ?_
  refine c_isRow ?_
  simp only [r_if_eq (tgt := 16) dX9_mending_4 rfl, r_il2 dX9_mending_7, r_if_lt (tgt := 16) dX9_mending_8 rfl, r_il2 dX9_mending_11, r_iconst dX9_mending_12 ki1, r_ic_leB (tgt := 20) dX9_mending_13 rfl, r_ldc2 dX9_mending_16 K9_239, r_lret dX9_mending_19 (Nat.zero_le _) (Nat.zero_le _), List.cons_append, List.nil_append, Nat.reduceAdd, Option.toList, z0]
  refine ⟨fun k => h0 (fun z => k z.1), fun k => ⟨fun k1 => h0 (by grind), fun k1 => ⟨fun k2 => ?_, fun k2 => h0 (by grind)⟩⟩⟩
  have hwh : 0 ≤ wh ∧ wh ≤ 1 := by grind
  obtain ⟨i, hi, rfl⟩ := in4 (Classical.not_not.mp k)
  obtain ⟨z, hz12, ez⟩ := hsz i hi
  have hr := hW.rw hi
  simp (disch := omega) only [E2, nI_1, nI_add, nI_leI, nI_ltI, nI_eq, nI_clamp]
  simp only [r_al0 dX9_mending_20, r_getf dX9_mending_21 F9_66, r_il1 dX9_mending_24, r_aald dX9_mending_25, List.cons_append, List.nil_append, Nat.reduceAdd, Option.toList, g9_9, z0, hW.r, rd_own hW.r, hW.r, rd_own hW.r, th_0, th_1, th_2, th_3, th_4, th_5, th_6, th_7, th_8, th_9, hro, aR_rw, nI_clamp (show i < 2 ^ 31 by omega)]
  refine ⟨vp_in_nI (by omega) (by omega), ?_⟩
  simp only [r_getf dX9_mending_26 F9_394, r_if_neB (tgt := 36) dX9_mending_29 rfl, r_ldc2 dX9_mending_32 K9_416, r_lret dX9_mending_35 (Nat.zero_le _) (Nat.zero_le _), List.cons_append, List.nil_append, Nat.reduceAdd, Option.toList, g4_0, z0, hr.r, rd_own hr.r, hr.r, rd_own hr.r]
  refine ⟨fun k3 => ?_, fun k3 => h1 i hi rfl hwh (Classical.not_not.mp k3)⟩
  have hQ := hQ i z hi rfl hwh k3 ez hz12
  simp (disch := omega) only [E2, nI_1, nI_add, nI_leI, nI_ltI, nI_eq, nI_clamp]
  simp only [r_al0 dX9_mending_36, r_al0 dX9_mending_37, r_getf dX9_mending_38 F9_66, r_il1 dX9_mending_41, r_aald dX9_mending_42, List.cons_append, List.nil_append, Nat.reduceAdd, Option.toList, g9_9, z0, hW.r, rd_own hW.r, hW.r, rd_own hW.r, th_0, th_1, th_2, th_3, th_4, th_5, th_6, th_7, th_8, th_9, hro, aR_rw, nI_clamp (show i < 2 ^ 31 by omega)]
  refine ⟨vp_in_nI (by omega) (by omega), ?_⟩
  refine r_iv2 dX9_mending_43 M9_418 Y149 O149 (Nat.le_of_ble_eq_true rfl) (rcv_own hW.r) (Nat.le_refl _) (Nat.le_refl _) ?_
  refine c_mendSparePage hW e2 l2 hi ez hz12 (fun hm1 u0 A0 eu eA hW1 s1 => ?_)
  have hu2 : (mnd n (AA (9 + i) 3) (z / 2) (u0, A0, 0)).1 2 = nI n := by
    rw [mnd_u2 _ _ _ 2 (by decide)]
    show u0 2 = _
    rw [eu, pk_un (by decide), pk_un (by decide), pk_us]; exact e2
  simp only [r_is3 dX9_mending_46, r_il2 dX9_mending_47, r_iconst dX9_mending_48 ki1, r_ic_ne (tgt := 55) dX9_mending_49 rfl, r_il3 dX9_mending_52, r_i2l dX9_mending_53, r_lret dX9_mending_54 (Nat.zero_le _) (Nat.zero_le _), r_al0 dX9_mending_55, r_getf dX9_mending_56 F9_53, r_al0 dX9_mending_59, r_getf dX9_mending_60 F9_16, List.cons_append, List.nil_append, Nat.reduceAdd, Option.toList, cat_f, cat_i, cat_n, cat_r, eq_self, g9_1, g9_7, true_and, z0, hW1.r, rd_own hW1.r, hW1.r, rd_own hW1.r, th_0, th_1, th_2, th_3, th_4, th_5, th_6, th_7, th_8, th_9]
  refine ⟨fun k4 => ?_, fun k4 => ?_⟩
  · skip
    refine r_iv2 dX9_mending_63 M9_422 Y86 O86 (Nat.le_of_ble_eq_true rfl) (rcv_own hW1.ta.r) (Nat.le_refl _) (Nat.le_refl _) ?_
    refine c_countOnceFor hW1.ta hW1.sp (by omega) hu2 l2 (fun hm2 A2 T0 hP2 g1 g2 g3 g4 => ?_)
    have hW2 := hW1.s_ta hP2 g4
    simp only [r_i2l dX9_mending_66, r_lret dX9_mending_67 (Nat.zero_le _) (Nat.zero_le _), List.cons_append, List.nil_append, Nat.reduceAdd, Option.toList, z0]
    exact (hQ hm2 _ _ u0 A0 eu eA hW2 (fun k q1 q7 => ⟨by rw [vu_ne q7, vu_ne q1], by rw [vu_ne q7, vu_ne q1]⟩) (s1.trans (g4.wide (by omega)))).2 k4 T0 rfl g1 g2 g3
  · exact (hQ hm1 _ _ u0 A0 eu eA hW1 (fun k q1 q7 => ⟨by rw [vu_ne q1], by rw [vu_ne q1]⟩) s1).1 (Classical.not_not.mp k4) rfl rfl
theorem c_count {wh : Int32} (hW : TW hm t pa pb qa qb V AA R) (hz : SZ V AA n w h nl np nw nr) (hc : V 8 0 = 0 → siR (V 0) (AA 0) (AA 2) n nl np nw nr (AA 8))
    (h1 : wh ≠ 10 → Q (some (.int (if wh = 0 then V 0 2 else if wh = 1 then V 2 0 else if wh = 2 then V 2 1 else if wh = 3 then V 2 2 else if wh = 4 then V 2 3 else if wh = 5 then V 0 3 else if wh = 6 then V 6 0 else if wh = 7 then V 4 0 else if wh = 8 then V 0 0 else if wh = 9 then V 0 1
      else if wh = 11 then sumI (fun k => pcnt (AA 0 10 k)) n / 2 else if wh = 12 then nI (wcn (fun i => ¬ V (9 + i) 0 = 0) 4) else -1))) hm hs)
    (hQ : wh = 10 → ∀ hm' V' AA', TW hm' t pa pb qa qb V' AA' R → KX 8 V V' AA AA' → V' 8 0 = 0 → siR (V 0) (AA 0) (AA 2) n nl np nw nr (AA' 8) → sm t (t + 70) hm hm' → Q (some (.int (cfs (fun q => hdv (AA' 8 1 q)) np))) hm' hs) : CC X EV (d + 6) 151 [.ref t, .int wh] hm hs Q := by
  obtain ⟨-, -, ⟨e2, l2⟩, -, -⟩ := id hz
  have hp := hW.pg
  have hsc := hW.sc
  have hac := hW.ac
  have htp := hW.tp
  refine c_of (ls2 := [.ref t, .int wh]) Y151 (Nat.le_of_ble_eq_true rfl) rfl I151 ?_
  simp only [r_il1 dX9_count_0, List.cons_append, List.nil_append, Nat.reduceAdd, Option.toList, z0]
  rcases sw_case (n := 13) wh (by omega) with hsw | ⟨m, hm', rfl⟩
  · rw [r_tsOut (tgt := 166) dX9_count_1 hsw rfl]
    simp only [r_iconst dX9_count_166 kim1, r_iret dX9_count_167 (Nat.zero_le _) (Nat.zero_le _), List.cons_append, List.nil_append, Nat.reduceAdd, Option.toList, z0]
    have : ∀ m, m < 13 → wh ≠ nI m := fun m hm' e => by rw [e, nI_toInt (by omega)] at hsw; omega
    have h1 := h1 (this 10 (by omega))
    rw [if_neg (show wh ≠ 0 from this 0 (by omega)), if_neg (show wh ≠ 1 from this 1 (by omega)), if_neg (show wh ≠ 2 from this 2 (by omega)), if_neg (show wh ≠ 3 from this 3 (by omega)), if_neg (show wh ≠ 4 from this 4 (by omega)), if_neg (show wh ≠ 5 from this 5 (by omega)), if_neg (show wh ≠ 6 from this 6 (by omega)), if_neg (show wh ≠ 7 from this 7 (by omega)), if_neg (show wh ≠ 8 from this 8 (by omega)), if_neg (show wh ≠ 9 from this 9 (by omega)), if_neg (show wh ≠ 11 from this 11 (by omega)), if_neg (show wh ≠ 12 from this 12 (by omega))] at h1
    exact h1
  · match m, hm' with
    | 0, _ =>
      rw [r_tsIn (tgt := 68) (off := 67) dX9_count_1 (by decide) (by decide) rfl rfl]
      simp only [r_al0 dX9_count_68, r_getf dX9_count_69 F9_10, r_getf dX9_count_72 F9_227, r_iret dX9_count_75 (Nat.zero_le _) (Nat.zero_le _), List.cons_append, List.nil_append, Nat.reduceAdd, Option.toList, g1_2, g9_0, z0, hW.r, rd_own hW.r, hW.r, rd_own hW.r, th_0, th_1, th_2, th_3, th_4, th_5, th_6, th_7, th_8, th_9, hp.r, rd_own hp.r, hp.r, rd_own hp.r]
      exact h1 (by decide)
    | 1, _ =>
      rw [r_tsIn (tgt := 76) (off := 75) dX9_count_1 (by decide) (by decide) rfl rfl]
      simp only [r_al0 dX9_count_76, r_getf dX9_count_77 F9_22, r_getf dX9_count_80 F9_428, r_iret dX9_count_83 (Nat.zero_le _) (Nat.zero_le _), List.cons_append, List.nil_append, Nat.reduceAdd, Option.toList, g5_0, g9_2, z0, hW.r, rd_own hW.r, hW.r, rd_own hW.r, th_0, th_1, th_2, th_3, th_4, th_5, th_6, th_7, th_8, th_9, hsc.r, rd_own hsc.r, hsc.r, rd_own hsc.r]
      exact h1 (by decide)
    | 2, _ =>
      rw [r_tsIn (tgt := 84) (off := 83) dX9_count_1 (by decide) (by decide) rfl rfl]
      simp only [r_al0 dX9_count_84, r_getf dX9_count_85 F9_22, r_getf dX9_count_88 F9_321, r_iret dX9_count_91 (Nat.zero_le _) (Nat.zero_le _), List.cons_append, List.nil_append, Nat.reduceAdd, Option.toList, g5_1, g9_2, z0, hW.r, rd_own hW.r, hW.r, rd_own hW.r, th_0, th_1, th_2, th_3, th_4, th_5, th_6, th_7, th_8, th_9, hsc.r, rd_own hsc.r, hsc.r, rd_own hsc.r]
      exact h1 (by decide)
    | 3, _ =>
      rw [r_tsIn (tgt := 92) (off := 91) dX9_count_1 (by decide) (by decide) rfl rfl]
      simp only [r_al0 dX9_count_92, r_getf dX9_count_93 F9_22, r_getf dX9_count_96 F9_310, r_iret dX9_count_99 (Nat.zero_le _) (Nat.zero_le _), List.cons_append, List.nil_append, Nat.reduceAdd, Option.toList, g5_2, g9_2, z0, hW.r, rd_own hW.r, hW.r, rd_own hW.r, th_0, th_1, th_2, th_3, th_4, th_5, th_6, th_7, th_8, th_9, hsc.r, rd_own hsc.r, hsc.r, rd_own hsc.r]
      exact h1 (by decide)
    | 4, _ =>
      rw [r_tsIn (tgt := 100) (off := 99) dX9_count_1 (by decide) (by decide) rfl rfl]
      simp only [r_al0 dX9_count_100, r_getf dX9_count_101 F9_22, r_getf dX9_count_104 F9_431, r_iret dX9_count_107 (Nat.zero_le _) (Nat.zero_le _), List.cons_append, List.nil_append, Nat.reduceAdd, Option.toList, g5_3, g9_2, z0, hW.r, rd_own hW.r, hW.r, rd_own hW.r, th_0, th_1, th_2, th_3, th_4, th_5, th_6, th_7, th_8, th_9, hsc.r, rd_own hsc.r, hsc.r, rd_own hsc.r]
      exact h1 (by decide)
    | 5, _ =>
      rw [r_tsIn (tgt := 108) (off := 107) dX9_count_1 (by decide) (by decide) rfl rfl]
      simp only [r_al0 dX9_count_108, r_getf dX9_count_109 F9_10, r_getf dX9_count_112 F9_125, r_iret dX9_count_115 (Nat.zero_le _) (Nat.zero_le _), List.cons_append, List.nil_append, Nat.reduceAdd, Option.toList, g1_3, g9_0, z0, hW.r, rd_own hW.r, hW.r, rd_own hW.r, th_0, th_1, th_2, th_3, th_4, th_5, th_6, th_7, th_8, th_9, hp.r, rd_own hp.r, hp.r, rd_own hp.r]
      exact h1 (by decide)
    | 6, _ =>
      rw [r_tsIn (tgt := 116) (off := 115) dX9_count_1 (by decide) (by decide) rfl rfl]
      simp only [r_al0 dX9_count_116, r_getf dX9_count_117 F9_46, r_getf dX9_count_120 F9_105, r_iret dX9_count_123 (Nat.zero_le _) (Nat.zero_le _), List.cons_append, List.nil_append, Nat.reduceAdd, Option.toList, g0_0, g9_6, z0, hW.r, rd_own hW.r, hW.r, rd_own hW.r, th_0, th_1, th_2, th_3, th_4, th_5, th_6, th_7, th_8, th_9, hac.r, rd_own hac.r, hac.r, rd_own hac.r]
      exact h1 (by decide)
    | 7, _ =>
      rw [r_tsIn (tgt := 124) (off := 123) dX9_count_1 (by decide) (by decide) rfl rfl]
      simp only [r_al0 dX9_count_124, r_getf dX9_count_125 F9_32, r_getf dX9_count_128 F9_78, r_iret dX9_count_131 (Nat.zero_le _) (Nat.zero_le _), List.cons_append, List.nil_append, Nat.reduceAdd, Option.toList, g8_0, g9_4, z0, hW.r, rd_own hW.r, hW.r, rd_own hW.r, th_0, th_1, th_2, th_3, th_4, th_5, th_6, th_7, th_8, th_9, htp.r, rd_own htp.r, htp.r, rd_own htp.r]
      exact h1 (by decide)
    | 8, _ =>
      rw [r_tsIn (tgt := 132) (off := 131) dX9_count_1 (by decide) (by decide) rfl rfl]
      simp only [r_al0 dX9_count_132, r_getf dX9_count_133 F9_10, r_getf dX9_count_136 F9_434, r_iret dX9_count_139 (Nat.zero_le _) (Nat.zero_le _), List.cons_append, List.nil_append, Nat.reduceAdd, Option.toList, g1_0, g9_0, z0, hW.r, rd_own hW.r, hW.r, rd_own hW.r, th_0, th_1, th_2, th_3, th_4, th_5, th_6, th_7, th_8, th_9, hp.r, rd_own hp.r, hp.r, rd_own hp.r]
      exact h1 (by decide)
    | 9, _ =>
      rw [r_tsIn (tgt := 140) (off := 139) dX9_count_1 (by decide) (by decide) rfl rfl]
      simp only [r_al0 dX9_count_140, r_getf dX9_count_141 F9_10, r_getf dX9_count_144 F9_437, r_iret dX9_count_147 (Nat.zero_le _) (Nat.zero_le _), List.cons_append, List.nil_append, Nat.reduceAdd, Option.toList, g1_1, g9_0, z0, hW.r, rd_own hW.r, hW.r, rd_own hW.r, th_0, th_1, th_2, th_3, th_4, th_5, th_6, th_7, th_8, th_9, hp.r, rd_own hp.r, hp.r, rd_own hp.r]
      exact h1 (by decide)
    | 10, _ =>
      rw [r_tsIn (tgt := 148) (off := 147) dX9_count_1 (by decide) (by decide) rfl rfl]
      simp only [r_al0 dX9_count_148, List.cons_append, List.nil_append, Nat.reduceAdd, Option.toList, z0]
      refine r_iv1 dX9_count_149 M9_440 Y152 O152 (Nat.le_of_ble_eq_true rfl) (rcv_own hW.r) (Nat.le_refl _) (Nat.le_refl _) ?_
      refine c_countHidden hW hz hc (fun hm' V' AA' hW' k1 k2 k3 k4 => ?_)
      simp only [r_iret dX9_count_152 (Nat.zero_le _) (Nat.zero_le _), List.cons_append, List.nil_append, Nat.reduceAdd, Option.toList, z0]
      exact hQ rfl hm' V' AA' hW' k1 k2 k3 k4
    | 11, _ =>
      rw [r_tsIn (tgt := 153) (off := 152) dX9_count_1 (by decide) (by decide) rfl rfl]
      simp only [r_al0 dX9_count_153, r_getf dX9_count_154 F9_10, List.cons_append, List.nil_append, Nat.reduceAdd, Option.toList, g9_0, z0, hW.r, rd_own hW.r, hW.r, rd_own hW.r, th_0, th_1, th_2, th_3, th_4, th_5, th_6, th_7, th_8, th_9]
      refine r_iv1 dX9_count_157 M9_443 Y13 O13 (Nat.le_of_ble_eq_true rfl) (rcv_own hp.r) (Nat.le_refl _) (Nat.le_refl _) ?_
      refine c_countCrossings hp e2 l2 ?_
      simp only [r_iret dX9_count_160 (Nat.zero_le _) (Nat.zero_le _), List.cons_append, List.nil_append, Nat.reduceAdd, Option.toList, z0]
      exact h1 (by decide)
    | 12, _ =>
      rw [r_tsIn (tgt := 161) (off := 160) dX9_count_1 (by decide) (by decide) rfl rfl]
      simp only [r_al0 dX9_count_161, List.cons_append, List.nil_append, Nat.reduceAdd, Option.toList, z0]
      refine r_iv1 dX9_count_162 M9_446 Y153 O153 (Nat.le_of_ble_eq_true rfl) (rcv_own hW.r) (Nat.le_refl _) (Nat.le_refl _) ?_
      refine c_countRows hW ?_
      simp only [r_iret dX9_count_165 (Nat.zero_le _) (Nat.zero_le _), List.cons_append, List.nil_append, Nat.reduceAdd, Option.toList, z0]
      exact h1 (by decide)
end Q9
