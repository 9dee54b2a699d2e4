/-! ===== TwoHands: rows ===== -/
def cpy (src dst : Nat → Int32) (a b k : Nat) : Nat → Int32 := fun q => if b ≤ q ∧ q < b + k then src (a + (q - b)) else dst q
theorem in4 {k : Int32} (h : 0 ≤ k ∧ k < 4) : ∃ i, i < 4 ∧ k = nI i := ix (n := 4) (by omega) h
def jdg (c : Nat → Prop) [DecidablePred c] : Nat → Nat → Nat
  | _, 0 => 0
  | i, k + 1 => if c i then jdg c (i + 1) k + 1 else 0
section Q6
variable {X : HM} {EV : Nat → Value} {d : Nat} {hm : HM} {hs : Nat} {Q : QT} {t pa pb qa qb : Nat} {V : Nat → Nat → Int32} {AA : Nat → Nat → Nat → Int32} {R : Nat → Int64} {B n w h nl np nw nr : Nat}
theorem c_row {r so z : Int32} (hW : TW hm t pa pb qa qb V AA R) (h0 : ¬ (0 ≤ r ∧ r < 4) → Q (some (.int (-2))) hm hs) (h1 : (0 ≤ r ∧ r < 4) → ¬ ((0 ≤ so ∧ so ≤ 1) ∧ (0 ≤ z ∧ z ≤ 12)) → Q (some (.int (-3))) hm hs)
    (hQ : ∀ i, i < 4 → r = nI i → (0 ≤ so ∧ so ≤ 1) → (0 ≤ z ∧ z ≤ 12) → ∀ hm' A', TW hm' t pa pb qa qb (va_up V (9 + i) (upd (upd (upd (V (9 + i)) 0 1) 1 so) 2 z)) (va_up AA (9 + i) A') R → (∀ q, q < 12 → A' 3 q = 0) → sm t (t + 70) hm hm' → Q (some (.int 0)) hm' hs) : CC X EV (d + 2) 145 [.ref t, .int r, .int so, .int z] hm hs Q := by
  have hro := hW.ro
  refine c_of (ls2 := [.ref t, .int r, .int so, .int z]) Y145 (Nat.le_of_ble_eq_true rfl) rfl I145 ?_
  simp only [r_il1 dX9_row_0, List.cons_append, List.nil_append, Nat.reduceAdd, Option.toList, z0]
  refine r_ist1 dX9_row_1 M9_388 Y154 (Nat.le_of_ble_eq_true rfl) (Nat.le_refl _) (Nat.le_refl _) ?_
  refine c_isRow ?_
  simp only [r_if_ne (tgt := 10) dX9_row_4 rfl, r_bipush dX9_row_7 kbm2, r_iret dX9_row_9 (Nat.zero_le _) (Nat.zero_le _), r_il2 dX9_row_10, r_if_lt (tgt := 29) dX9_row_11 rfl, r_il2 dX9_row_14, r_iconst dX9_row_15 ki1, r_ic_gt (tgt := 29) dX9_row_16 rfl, r_il3 dX9_row_19, r_if_lt (tgt := 29) dX9_row_20 rfl, r_il3 dX9_row_23, r_bipush dX9_row_24 kb12, r_ic_le (tgt := 32) dX9_row_26 rfl, r_bipush dX9_row_29 kbm3, r_iret dX9_row_31 (Nat.zero_le _) (Nat.zero_le _), r_al0 dX9_row_32, r_getf dX9_row_33 F9_66, r_il1 dX9_row_36, r_aald dX9_row_37, r_il2 dX9_row_38, r_il3 dX9_row_39, List.cons_append, List.nil_append, Nat.reduceAdd, Option.toList, g9_9, z0, hW.r, rd_own hW.r, hW.r, rd_own hW.r, th_0, th_1, th_2, th_3, th_4, th_5, th_6, th_7, th_8, th_9, hro, aR_rw]
  refine ⟨fun hk => ?_, fun hk => h0 (Classical.not_not.mp hk)⟩
  have hk := Classical.not_not.mp hk
  refine ⟨fun k1 => h1 hk (by grind), fun k1 => ⟨fun k2 => h1 hk (by grind), fun k2 => ⟨fun k3 => h1 hk (by grind), fun k3 => ⟨fun k4 => ?_, fun k4 => h1 hk (by grind)⟩⟩⟩⟩
  obtain ⟨i, hi, rfl⟩ := in4 hk
  have hr := hW.rw hi
  simp only [nI_clamp (show i < 2 ^ 31 by omega)]
  refine ⟨vp_in_nI (by omega) (by omega), ?_⟩
  refine r_iv3 dX9_row_40 M9_391 Y59 O59 (Nat.le_of_ble_eq_true rfl) (rcv_own hr.r) (Nat.le_refl _) (Nat.le_refl _) ?_
  refine c_rowStart hr (fun hm' A' hr' g1 g2 => ?_)
  simp only [r_iconst dX9_row_43 ki0, r_iret dX9_row_44 (Nat.zero_le _) (Nat.zero_le _), List.cons_append, List.nil_append, Nat.reduceAdd, Option.toList, z0]
  exact hQ i hi rfl (by grind) (by grind) hm' A' (hW.s_rw hi hr' g2) g1 (g2.wide (by omega))
theorem c_write {r q v : Int32} (hW : TW hm t pa pb qa qb V AA R) (hsz : ∀ i, i < 4 → ∃ z, z ≤ 12 ∧ V (9 + i) 2 = nI z) (h0 : ¬ (0 ≤ r ∧ r < 4) → Q (some (.int (-2))) hm hs)
    (h1 : ∀ i, i < 4 → r = nI i → V (9 + i) 0 = 0 → Q (some (.int (-6))) hm hs) (h2 : ∀ i, i < 4 → r = nI i → ¬ V (9 + i) 0 = 0 → ¬ (0 ≤ q ∧ q < V (9 + i) 2) → Q (some (.int (-7))) hm hs)
    (hQ : ∀ i j z, i < 4 → r = nI i → ¬ V (9 + i) 0 = 0 → V (9 + i) 2 = nI z → z ≤ 12 → j < z → q = nI j → ∀ hm', TW hm' t pa pb qa qb V (va_up AA (9 + i) (va_up (AA (9 + i)) 3 (upd (AA (9 + i) 3) j (if V (9 + i) 1 = 0 then v.toInt16.toInt32 else v)))) R → sm t (t + 70) hm hm' → Q (some (.int (if V (9 + i) 1 = 0 then v.toInt16.toInt32 else v))) hm' hs) : CC X EV (d + 2) 146 [.ref t, .int r, .int q, .int v] hm hs Q := by
  have hro := hW.ro
  refine c_of (ls2 := [.ref t, .int r, .int q, .int v, .null]) Y146 (Nat.le_of_ble_eq_true rfl) rfl I146 ?_
  simp only [r_il1 dX9_write_0, List.cons_append, List.nil_append, Nat.reduceAdd, Option.toList, z0]
  refine r_ist1 dX9_write_1 M9_388 Y154 (Nat.le_of_ble_eq_true rfl) (Nat.le_refl _) (Nat.le_refl _) ?_
  refine c_isRow ?_
  simp only [r_if_ne (tgt := 10) dX9_write_4 rfl, r_bipush dX9_write_7 kbm2, r_iret dX9_write_9 (Nat.zero_le _) (Nat.zero_le _), r_al0 dX9_write_10, r_getf dX9_write_11 F9_66, r_il1 dX9_write_14, r_aald dX9_write_15, r_as4 dX9_write_16, List.cons_append, List.nil_append, Nat.reduceAdd, Option.toList, cat_f, cat_i, cat_n, cat_r, eq_self, g9_9, true_and, z0, hW.r, rd_own hW.r, hW.r, rd_own hW.r, th_0, th_1, th_2, th_3, th_4, th_5, th_6, th_7, th_8, th_9, hro, aR_rw]
  refine ⟨fun hk => ?_, fun hk => h0 (Classical.not_not.mp hk)⟩
  obtain ⟨i, hi, rfl⟩ := in4 (Classical.not_not.mp hk)
  obtain ⟨z, hz, ez⟩ := hsz i hi
  have hr := hW.rw hi
  simp only [nI_clamp (show i < 2 ^ 31 by omega)]
  refine ⟨vp_in_nI (by omega) (by omega), ?_⟩
  simp only [r_al4 dX9_write_18, r_getf dX9_write_20 F9_394, r_if_ne (tgt := 29) dX9_write_23 rfl, r_bipush dX9_write_26 kbm6, r_iret dX9_write_28 (Nat.zero_le _) (Nat.zero_le _), r_il2 dX9_write_29, r_if_lt (tgt := 42) dX9_write_30 rfl, r_il2 dX9_write_33, r_al4 dX9_write_34, r_getf dX9_write_36 F9_397, r_ic_lt (tgt := 45) dX9_write_39 rfl, r_bipush dX9_write_42 kbm7, r_iret dX9_write_44 (Nat.zero_le _) (Nat.zero_le _), r_al4 dX9_write_45, r_getf dX9_write_47 F9_398, r_il2 dX9_write_50, r_al4 dX9_write_51, r_il3 dX9_write_53, List.cons_append, List.nil_append, Nat.reduceAdd, Option.toList, g4_0, g4_2, g4_3, z0, hr.r, rd_own hr.r, hr.r, rd_own hr.r]
  refine ⟨fun k1 => ⟨fun k2 => h2 i hi rfl k1 (by grind), fun k2 => ⟨fun k3 => ?_, fun k3 => h2 i hi rfl k1 (by grind)⟩⟩, fun k1 => h1 i hi rfl (Classical.not_not.mp k1)⟩
  rw [ez] at k3
  obtain ⟨j, hj, rfl⟩ := ix (k := q) (n := z) (by omega) ⟨by grind, k3⟩
  refine r_iv2 dX9_write_54 M9_401 Y60 O60 (Nat.le_of_ble_eq_true rfl) (rcv_own hr.r) (Nat.le_refl _) (Nat.le_refl _) ?_
  refine c_cut hr ?_
  simp (disch := first | omega | (simp only [List.length_cons, List.length_nil]; omega)) only [r_iast dX9_write_57, r_al4 dX9_write_58, r_getf dX9_write_60 F9_398, r_il2 dX9_write_63, r_iald dX9_write_64, r_iret dX9_write_65 (Nat.zero_le _) (Nat.zero_le _), List.cons_append, List.nil_append, Nat.reduceAdd, Option.toList, aI_ok, g4_3, pk_un, pk_us, rd_up_eq, rd_up_ne, sI_ok, up_eq, up_ne, up_up, z0, hr.r, rd_own hr.r, hr.r3, rd_own hr.r3, nI_clamp (show j < 2 ^ 31 by omega)]
  refine ⟨vp_in_nI (by omega) (by omega), vp_in_nI (by omega) (by omega), ?_⟩
  have := hW.s_rw hi (hr.w3 (upd (AA (9 + i) 3) j (if V (9 + i) 1 = 0 then v.toInt16.toInt32 else v))) (sm.rf.up (by omega))
  rw [va_self] at this
  exact hQ i j z hi rfl k1 ez hz hj rfl _ this (sm.rf.up (by omega))
theorem c_countRows (hW : TW hm t pa pb qa qb V AA R) (hQ : Q (some (.int (nI (wcn (fun i => ¬ V (9 + i) 0 = 0) 4)))) hm hs) : CC X EV (d + 1) 153 [.ref t] hm hs Q := by
  have hro := hW.ro
  refine c_of (ls2 := [.ref t, .null, .null]) Y153 (Nat.le_of_ble_eq_true rfl) rfl I153 ?_
  simp only [r_iconst dX9_countRows_0 ki0, r_is1 dX9_countRows_1, r_iconst dX9_countRows_2 ki0, r_is2 dX9_countRows_3, List.cons_append, List.nil_append, Nat.reduceAdd, Option.toList, cat_f, cat_i, cat_n, cat_r, eq_self, true_and, z0]
  refine up_loop 4 (fun i => E1 X EV d 9 0 0 (some .int) false cX9_countRows Q 4 [.ref t, .int (nI (wcn (fun i => ¬ V (9 + i) 0 = 0) i)), .int (nI i)] [] 0 0 hm hs) ?_ ?_ 0 (by omega)
  · skip
    simp only [r_il2 dX9_countRows_4, r_iconst dX9_countRows_5 ki4, r_ic_ge (tgt := 30) dX9_countRows_6 rfl, r_al0 dX9_countRows_9, r_getf dX9_countRows_10 F9_66, r_il2 dX9_countRows_13, r_aald dX9_countRows_14, r_getf dX9_countRows_15 F9_394, r_if_eq (tgt := 24) dX9_countRows_18 rfl, r_ii1 dX9_countRows_21 kn1, r_ii2 dX9_countRows_24 kn1, r_gotoB (tgt := 4) dX9_countRows_27 rfl, r_il1 dX9_countRows_30, r_iret dX9_countRows_31 (Nat.zero_le _) (Nat.zero_le _), List.cons_append, List.nil_append, Nat.reduceAdd, Option.toList, aR_ok, cat_f, cat_i, cat_n, cat_r, eq_self, g4_0, g9_9, true_and, z0]
    exact ⟨fun _ => hQ, fun h => absurd (by decide) h⟩
  · intro i hi ih
    have hr := hW.rw hi
    have hl := wcn_le (fun i => ¬ V (9 + i) 0 = 0) i
    simp only [r_il2 dX9_countRows_4, r_iconst dX9_countRows_5 ki4, r_ic_ge (tgt := 30) dX9_countRows_6 rfl, r_al0 dX9_countRows_9, r_getf dX9_countRows_10 F9_66, r_il2 dX9_countRows_13, r_aald dX9_countRows_14, r_il1 dX9_countRows_30, r_iret dX9_countRows_31 (Nat.zero_le _) (Nat.zero_le _), List.cons_append, List.nil_append, Nat.reduceAdd, Option.toList, g9_9, z0, hW.r, rd_own hW.r, hW.r, rd_own hW.r, th_0, th_1, th_2, th_3, th_4, th_5, th_6, th_7, th_8, th_9, hro, aR_rw, show (4 : Int32) = nI 4 from rfl]
    simp (disch := omega) only [E2, nI_1, nI_add, nI_leI, nI_ltI, nI_eq, nI_clamp]
    refine ⟨fun h => absurd h (by omega), fun _ => ⟨vp_in_nI (by omega) (by omega), ?_⟩⟩
    rw [wcn] at ih
    simp only [r_getf dX9_countRows_15 F9_394, r_if_eq (tgt := 24) dX9_countRows_18 rfl, r_ii1 dX9_countRows_21 kn1, r_ii2 dX9_countRows_24 kn1, r_gotoB (tgt := 4) dX9_countRows_27 rfl, List.cons_append, List.nil_append, Nat.reduceAdd, Option.toList, cat_f, cat_i, cat_n, cat_r, eq_self, g4_0, true_and, z0, hr.r, rd_own hr.r, hr.r, rd_own hr.r]
    simp (disch := omega) only [E2, nI_1, nI_add, nI_leI, nI_ltI, nI_eq, nI_clamp]
    refine ⟨fun h => ?_, fun h => ?_⟩
    · rw [if_neg (fun z => z h)] at ih; exact ih
    · rw [if_pos h] at ih; exact ih
theorem c_countHidden (hW : TW hm t pa pb qa qb V AA R) (hz : SZ V AA n w h nl np nw nr) (hc : V 8 0 = 0 → siR (V 0) (AA 0) (AA 2) n nl np nw nr (AA 8))
    (hQ : ∀ hm' V' AA', TW hm' t pa pb qa qb V' AA' R → KX 8 V V' AA AA' → V' 8 0 = 0 → siR (V 0) (AA 0) (AA 2) n nl np nw nr (AA' 8) → sm t (t + 70) hm hm' → Q (some (.int (cfs (fun q => hdv (AA' 8 1 q)) np))) hm' hs) : CC X EV (d + 5) 152 [.ref t] hm hs Q := by
  obtain ⟨-, -, -, -, ⟨e4, l4⟩, -⟩ := id hz
  refine c_of (ls2 := [.ref t, .null, .null]) Y152 (Nat.le_of_ble_eq_true rfl) rfl I152 ?_
  simp only [r_al0 dX9_countHidden_0, r_getf dX9_countHidden_1 F9_60, r_al0 dX9_countHidden_4, r_getf dX9_countHidden_5 F9_10, r_al0 dX9_countHidden_8, r_getf dX9_countHidden_9 F9_22, List.cons_append, List.nil_append, Nat.reduceAdd, Option.toList, g9_0, g9_2, g9_8, z0, hW.r, rd_own hW.r, hW.r, rd_own hW.r, th_0, th_1, th_2, th_3, th_4, th_5, th_6, th_7, th_8, th_9]
  refine r_iv3 dX9_countHidden_12 M9_275 Y82 O82 (Nat.le_of_ble_eq_true rfl) (rcv_own hW.si.r) (Nat.le_refl _) (Nat.le_refl _) ?_
  refine c_look hW hz hc (fun hm' V' AA' hW' k1 k2 k3 k4 => ?_)
  have hQ := hQ hm' V' AA' hW' k1 k2 k3 (k4.wide (by omega))
  rw [← (k1 2 (by decide)).1] at e4
  have hsc := hW'.sc
  have hsi := hW'.si
  simp only [r_iconst dX9_countHidden_15 ki0, r_is1 dX9_countHidden_16, r_iconst dX9_countHidden_17 ki0, r_is2 dX9_countHidden_18, List.cons_append, List.nil_append, Nat.reduceAdd, Option.toList, cat_f, cat_i, cat_n, cat_r, eq_self, true_and, z0]
  refine up_loop np (fun q => E1 X EV (d + 4) 9 0 0 (some .int) false cX9_countHidden Q 19 [.ref t, .int (cfs (fun q => hdv (AA' 8 1 q)) q), .int (nI q)] [] 0 0 hm' hs) ?_ ?_ 0 (by omega)
  · skip
    simp only [r_il2 dX9_countHidden_19, r_al0 dX9_countHidden_20, r_getf dX9_countHidden_21 F9_22, r_getf dX9_countHidden_24 F9_321, r_ic_ge (tgt := 54) dX9_countHidden_27 rfl, r_il1 dX9_countHidden_30, r_al0 dX9_countHidden_31, r_getf dX9_countHidden_32 F9_60, r_getf dX9_countHidden_35 F9_278, r_il2 dX9_countHidden_38, r_iald dX9_countHidden_39, r_il1 dX9_countHidden_54, r_iret dX9_countHidden_55 (Nat.zero_le _) (Nat.zero_le _), List.cons_append, List.nil_append, Nat.reduceAdd, Option.toList, aI_ok, g5_1, g6_1, g9_2, g9_8, z0, hW'.r, rd_own hW'.r, hW'.r, rd_own hW'.r, th_0, th_1, th_2, th_3, th_4, th_5, th_6, th_7, th_8, th_9, hsc.r, rd_own hsc.r, hsc.r, rd_own hsc.r, e4]
    exact ⟨fun _ => hQ, fun h => absurd (Int32.le_refl _) h⟩
  · intro q hq ih
    simp only [r_il2 dX9_countHidden_19, r_al0 dX9_countHidden_20, r_getf dX9_countHidden_21 F9_22, r_getf dX9_countHidden_24 F9_321, r_ic_ge (tgt := 54) dX9_countHidden_27 rfl, r_il1 dX9_countHidden_30, r_al0 dX9_countHidden_31, r_getf dX9_countHidden_32 F9_60, r_getf dX9_countHidden_35 F9_278, r_il2 dX9_countHidden_38, r_iald dX9_countHidden_39, r_il1 dX9_countHidden_54, r_iret dX9_countHidden_55 (Nat.zero_le _) (Nat.zero_le _), List.cons_append, List.nil_append, Nat.reduceAdd, Option.toList, aI_ok, g5_1, g6_1, g9_2, g9_8, z0, hW'.r, rd_own hW'.r, hW'.r, rd_own hW'.r, th_0, th_1, th_2, th_3, th_4, th_5, th_6, th_7, th_8, th_9, hsc.r, rd_own hsc.r, hsc.r, rd_own hsc.r, hsi.r, rd_own hsi.r, hsi.r1, rd_own hsi.r1, e4]
    simp (disch := omega) only [E2, nI_1, nI_add, nI_leI, nI_ltI, nI_eq, nI_clamp]
    refine ⟨fun h => absurd h (by omega), fun _ => ⟨vp_in_nI (by omega) (by omega), ?_⟩⟩
    refine r_ist1 dX9_countHidden_40 M9_287 Y133 (Nat.le_of_ble_eq_true rfl) (Nat.le_refl _) (Nat.le_refl _) ?_
    refine c_hiddenCells ?_
    simp only [List.cons_append, List.nil_append, Nat.reduceAdd, Option.toList, z0]
    refine r_ist1 dX9_countHidden_43 M9_358 Y263 (Nat.le_of_ble_eq_true rfl) (Nat.le_refl _) (Nat.le_refl _) ?_
    refine c_bitCount ?_
    simp only [r_iadd dX9_countHidden_46, r_is1 dX9_countHidden_47, r_ii2 dX9_countHidden_48 kn1, r_gotoB (tgt := 19) dX9_countHidden_51 rfl, List.cons_append, List.nil_append, Nat.reduceAdd, Option.toList, cat_f, cat_i, cat_n, cat_r, eq_self, true_and, z0]
    simp (disch := omega) only [E2, nI_1, nI_add, nI_leI, nI_ltI, nI_eq, nI_clamp]
    exact ih
theorem c_refusalOf {p : Nat} {u : Nat → Int32} {A : Nat → Nat → Int32} {a b : Int32} (hP : PG hm p u A) (hn : u 2 = nI n) (hn12 : n ≤ 12)
    (h0 : ¬ ((0 ≤ a ∧ a < nI n) ∧ (0 ≤ b ∧ b < nI n)) → Q (some (.int (-2))) hm hs)
    (hQ : ∀ i j, i < n → j < n → a = nI i → b = nI j → Q (some (.int (if ¬ (i ≠ j ∧ bt (A 10 i) j = true ∧ bt (A 11 i) j = false) then -5 else if bt (A 12 j) i = true then -105 else if ¬ u 4 &&& (A 13 i ||| sb i) = 0 ∧ ¬ u 5 &&& (A 12 j ||| sb j) = 0 then -9 else 0))) hm hs) : CC X EV (d + 3) 110 [.ref p, .int a, .int b] hm hs Q := by
  refine c_of (ls2 := [.ref p, .int a, .int b]) Y110 (Nat.le_of_ble_eq_true rfl) rfl I110 ?_
  simp only [r_al0 dX9_refusalOf_0, r_il1 dX9_refusalOf_1, List.cons_append, List.nil_append, Nat.reduceAdd, Option.toList, z0]
  refine r_iv2 dX9_refusalOf_2 M9_128 Y6 O6 (Nat.le_of_ble_eq_true rfl) (rcv_own hP.r) (Nat.le_refl _) (Nat.le_refl _) ?_
  refine c_has hP ?_
  rw [hn]
  simp only [r_if_eq (tgt := 16) dX9_refusalOf_5 rfl, r_al0 dX9_refusalOf_8, r_il2 dX9_refusalOf_9, r_bipush dX9_refusalOf_16 kbm2, r_iret dX9_refusalOf_18 (Nat.zero_le _) (Nat.zero_le _), List.cons_append, List.nil_append, Nat.reduceAdd, Option.toList, z0]
  refine ⟨fun h => h0 (fun z => h z.1), fun h => ?_⟩
  refine r_iv2 dX9_refusalOf_10 M9_128 Y6 O6 (Nat.le_of_ble_eq_true rfl) (rcv_own hP.r) (Nat.le_refl _) (Nat.le_refl _) ?_
  refine c_has hP ?_
  rw [hn]
  simp only [r_if_ne (tgt := 19) dX9_refusalOf_13 rfl, r_bipush dX9_refusalOf_16 kbm2, r_iret dX9_refusalOf_18 (Nat.zero_le _) (Nat.zero_le _), r_al0 dX9_refusalOf_19, r_il1 dX9_refusalOf_20, r_il2 dX9_refusalOf_21, List.cons_append, List.nil_append, Nat.reduceAdd, Option.toList, z0]
  refine ⟨fun h2 => ?_, fun h2 => h0 (fun z => Classical.not_not.mp h2 z.2)⟩
  obtain ⟨i, hi, rfl⟩ := ix (by omega) (Classical.not_not.mp h)
  obtain ⟨j, hj, rfl⟩ := ix (by omega) (Classical.not_not.mp h2)
  have hQ := hQ i j hi hj rfl rfl
  refine r_iv3 dX9_refusalOf_22 M9_176 Y17 O17 (Nat.le_of_ble_eq_true rfl) (rcv_own hP.r) (Nat.le_refl _) (Nat.le_refl _) ?_
  refine c_canBeTold hP (by omega) (by omega) ?_
  simp only [r_if_ne (tgt := 31) dX9_refusalOf_25 rfl, r_bipush dX9_refusalOf_28 kbm5, r_iret dX9_refusalOf_30 (Nat.zero_le _) (Nat.zero_le _), r_al0 dX9_refusalOf_31, r_il2 dX9_refusalOf_32, r_il1 dX9_refusalOf_33, List.cons_append, List.nil_append, Nat.reduceAdd, Option.toList, z0]
  refine ⟨fun h3 => ?_, fun h3 => by rw [if_pos (Classical.not_not.mp h3)] at hQ; exact hQ⟩
  rw [if_neg h3] at hQ
  refine r_iv3 dX9_refusalOf_34 M9_179 Y16 O16 (Nat.le_of_ble_eq_true rfl) (rcv_own hP.r) (Nat.le_refl _) (Nat.le_refl _) ?_
  refine c_isOver hP (by omega) (by omega) ?_
  simp only [r_if_eq (tgt := 43) dX9_refusalOf_37 rfl, r_bipush dX9_refusalOf_40 kbm105, r_iret dX9_refusalOf_42 (Nat.zero_le _) (Nat.zero_le _), r_al0 dX9_refusalOf_43, r_il1 dX9_refusalOf_44, r_il2 dX9_refusalOf_45, List.cons_append, List.nil_append, Nat.reduceAdd, Option.toList, z0]
  refine ⟨fun h4 => ?_, fun h4 => by rw [if_pos (Classical.not_not.mp h4)] at hQ; exact hQ⟩
  rw [if_neg h4] at hQ
  refine r_iv3 dX9_refusalOf_46 M9_182 Y18 O18 (Nat.le_of_ble_eq_true rfl) (rcv_own hP.r) (Nat.le_refl _) (Nat.le_refl _) ?_
  refine c_linkLeavesNoWay hP (by omega) (by omega) ?_
  simp only [r_if_eq (tgt := 57) dX9_refusalOf_49 rfl, r_bipush dX9_refusalOf_52 kbm9, r_goto (tgt := 58) dX9_refusalOf_54 rfl, r_iconst dX9_refusalOf_57 ki0, r_iret dX9_refusalOf_58 (Nat.zero_le _) (Nat.zero_le _), List.cons_append, List.nil_append, Nat.reduceAdd, Option.toList, z0]
  exact ⟨fun h5 => by rw [if_neg h5] at hQ; exact hQ, fun h5 => by rw [if_pos (Classical.not_not.mp h5)] at hQ; exact hQ⟩
theorem c_linksChanged (hW : TW hm t pa pb qa qb V AA R) (hQ : ∀ hm', TW hm' t pa pb qa qb (va_up (va_up V 7 (upd (upd (V 7) 0 1) 1 1)) 8 (upd (V 8) 0 1)) AA R → sm t (t + 70) hm hm' → Q none hm' hs) : CC X EV (d + 1) 111 [.ref t] hm hs Q := by
  have h1 := hW.ta
  have h2 := hW.si
  refine c_of (ls2 := [.ref t]) Y111 (Nat.le_of_ble_eq_true rfl) rfl I111 ?_
  simp (disch := first | omega | (simp only [List.length_cons, List.length_nil]; omega)) only [r_al0 dX9_linksChanged_0, r_getf dX9_linksChanged_1 F9_53, r_iconst dX9_linksChanged_4 ki1, r_putf dX9_linksChanged_5 F9_185, r_al0 dX9_linksChanged_8, r_getf dX9_linksChanged_9 F9_53, r_iconst dX9_linksChanged_12 ki1, r_putf dX9_linksChanged_13 F9_186, r_al0 dX9_linksChanged_16, r_getf dX9_linksChanged_17 F9_60, r_iconst dX9_linksChanged_20 ki1, r_putf dX9_linksChanged_21 F9_149, r_vret dX9_linksChanged_24 (Nat.zero_le _) (Nat.zero_le _), List.cons_append, List.nil_append, Nat.reduceAdd, Option.toList, fit_z0, fit_z1, ft6_0, ft7_0, ft7_1, g9_7, g9_8, p6_0, p7_0, p7_1, pk_un, pk_us, rd_up_eq, rd_up_ne, true_and, up_eq, up_ne, up_up, z0, hW.r, rd_own hW.r, hW.r, rd_own hW.r, th_0, th_1, th_2, th_3, th_4, th_5, th_6, th_7, th_8, th_9, h1.r, rd_own h1.r, h1.r, rd_own h1.r, h2.r, rd_own h2.r, h2.r, rd_own h2.r]
  have h3 := hW.s_ta (h1.o (upd (upd (V 7) 0 1) 1 1)) (sm.rf.up (by omega))
  rw [va_self] at h3
  have h4 := h3.s_si (h3.si.o (upd (V 8) 0 1)) (sm.rf.up (by omega))
  rw [va_self] at h4
  exact hQ _ h4 ((sm.rf.up (by omega)).up (by omega))
end Q6
