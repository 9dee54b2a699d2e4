/-! ===== the rest of Tally; RingShown, Sight ===== -/
section T2
variable {X : HM} {EV : Nat → Value} {d : Nat} {hm : HM} {hs : Nat} {Q : QT} {p g : Nat} {u pu : Nat → Int32} {A pA : Nat → Nat → Int32} {R : Nat → Int64} {B n : Nat}
theorem c_comesAhead {a b : Nat} (hP : TA hm p u A R) (ha : a < 12) (hb : b < 12) (hQ : Q (some (.int (A 5 (a * 12 + b)))) hm hs) : CC X EV (d + 1) 92 [.ref p, .int (nI a), .int (nI b)] hm hs Q := by
  have e : nI a * 12 + nI b = nI (a * 12 + b) := by rw [show (12 : Int32) = nI 12 from rfl, pk_mul, nI_add]
  refine c_of (ls2 := [.ref p, .int (nI a), .int (nI b)]) Y92 (Nat.le_of_ble_eq_true rfl) rfl I92 ?_
  simp only [r_al0 dX7_comesAhead_0, r_getf dX7_comesAhead_1 F7_29, r_il1 dX7_comesAhead_4, r_bipush dX7_comesAhead_5 kb12, r_imul dX7_comesAhead_7, r_il2 dX7_comesAhead_8, r_iadd dX7_comesAhead_9, r_iald dX7_comesAhead_10, r_iret dX7_comesAhead_11 (Nat.zero_le _) (Nat.zero_le _), List.cons_append, List.nil_append, Nat.reduceAdd, Option.toList, aI_ok, g7_5, z0, hP.r, rd_own hP.r, hP.r5, rd_own hP.r5, e, nI_clamp (show a * 12 + b < 2 ^ 31 by omega)]
  exact ⟨vp_in_nI (by omega) (by omega), hQ⟩
theorem c_asked {a b : Nat} (hP : TA hm p u A R) (ha : a < 12) (hb : b < 12) (hQ : Q (some (.int (askd (A 5) a b))) hm hs) : CC X EV (d + 2) 93 [.ref p, .int (nI a), .int (nI b)] hm hs Q := by
  refine c_of (ls2 := [.ref p, .int (nI a), .int (nI b)]) Y93 (Nat.le_of_ble_eq_true rfl) rfl I93 ?_
  simp only [r_al0 dX7_asked_0, r_il1 dX7_asked_1, r_il2 dX7_asked_2, List.cons_append, List.nil_append, Nat.reduceAdd, Option.toList, z0]
  refine r_iv3 dX7_asked_3 M7_69 Y92 O92 (Nat.le_of_ble_eq_true rfl) (rcv_own hP.r) (Nat.le_refl _) (Nat.le_refl _) ?_
  refine c_comesAhead hP ha hb ?_
  simp only [r_al0 dX7_asked_6, r_il2 dX7_asked_7, r_il1 dX7_asked_8, List.cons_append, List.nil_append, Nat.reduceAdd, Option.toList, z0]
  refine r_iv3 dX7_asked_9 M7_69 Y92 O92 (Nat.le_of_ble_eq_true rfl) (rcv_own hP.r) (Nat.le_refl _) (Nat.le_refl _) ?_
  refine c_comesAhead hP hb ha ?_
  simp only [r_max dX7_asked_12 M7_73, r_iret dX7_asked_15 (Nat.zero_le _) (Nat.zero_le _), List.cons_append, List.length_cons, List.length_nil, List.nil_append, Nat.le_refl, Nat.reduceAdd, Nat.reduceLeDiff, Nat.zero_le, Option.toList, z0]
  exact hQ
theorem c_meanPlace {k : Nat} (hP : TA hm p u A R) (hk : k < 12) (hQ : Q (some (.long (if 0 < u 2 then 1000 * R k / (u 2).toInt64 else 0))) hm hs) : CC X EV (d + 1) 95 [.ref p, .int (nI k)] hm hs Q := by
  refine c_of (ls2 := [.ref p, .int (nI k)]) Y95 (Nat.le_of_ble_eq_true rfl) rfl I95 ?_
  simp only [r_al0 dX7_meanPlace_0, r_getf dX7_meanPlace_1 F7_18, r_if_le (tgt := 26) dX7_meanPlace_4 rfl, r_ldc2 dX7_meanPlace_7 K7_88, r_al0 dX7_meanPlace_10, r_getf dX7_meanPlace_11 F7_32, r_il1 dX7_meanPlace_14, r_lald dX7_meanPlace_15, r_lmul dX7_meanPlace_16, r_al0 dX7_meanPlace_17, r_getf dX7_meanPlace_18 F7_18, r_i2l dX7_meanPlace_21, r_ldiv dX7_meanPlace_22, r_goto (tgt := 27) dX7_meanPlace_23 rfl, r_lconst dX7_meanPlace_26 kl0, r_lret dX7_meanPlace_27 (Nat.zero_le _) (Nat.zero_le _), List.cons_append, List.nil_append, Nat.reduceAdd, Option.toList, aJ_ok, g7_2, g7_6, z0, hP.r, rd_own hP.r, hP.r6, rd_own hP.r6, nI_clamp (show k < 2 ^ 31 by omega)]
  have := vp_in_nI hk (by omega)
  refine ⟨fun h => ?_, fun h => ⟨this, ?_⟩⟩
  · rw [if_neg (by grind)] at hQ; exact hQ
  · rw [if_pos (by grind)] at hQ
    refine ⟨fun e => h ?_, hQ⟩
    have e2 := congrArg Int64.toInt e
    rw [Int32.toInt_toInt64] at e2
    rw [Int32.le_iff_toInt_le, e2]
    decide
theorem c_countWays (hP : TA hm p u A R) (hG : PG hm g pu pA) (hn : pu 2 = nI n) (hn12 : n ≤ 12) (hQ : Q (some (.int (nI (wysv (A 3) (pu 4) (pu 5) (2 ^ n))))) hm hs) : CC X EV (d + 1) 96 [.ref p, .ref g] hm hs Q := by
  have hpw := pw12 hn12
  refine c_of (ls2 := [.ref p, .ref g, .null, .null, .null]) Y96 (Nat.le_of_ble_eq_true rfl) rfl I96 ?_
  simp only [r_iconst dX7_countWays_0 ki0, r_is2 dX7_countWays_1, r_iconst dX7_countWays_2 ki1, r_al1 dX7_countWays_3, r_getf dX7_countWays_4 F7_40, r_ishl dX7_countWays_7, r_iconst dX7_countWays_8 ki1, r_isub dX7_countWays_9, r_is3 dX7_countWays_10, r_iconst dX7_countWays_11 ki0, r_is4 dX7_countWays_12, List.cons_append, List.nil_append, Nat.reduceAdd, Option.toList, cat_f, cat_i, cat_n, cat_r, eq_self, g1_2, true_and, z0, hP.r, rd_own hP.r, hP.r, rd_own hP.r, hG.r, rd_own hG.r, hG.r, rd_own hG.r, hn, whole_eq hn12]
  refine up_loop (2 ^ n) (fun k => E1 X EV d 7 0 0 (some .int) false cX7_countWays Q 14 [.ref p, .ref g, .int (nI (wysv (A 3) (pu 4) (pu 5) k)), .int (nI (2 ^ n - 1)), .int (nI k)] [] 0 0 hm hs) ?_ ?_ 0 (Nat.zero_le _)
  · skip
    simp only [r_il4 dX7_countWays_14, r_il3 dX7_countWays_16, r_ic_gt (tgt := 61) dX7_countWays_17 rfl, r_al0 dX7_countWays_20, r_getf dX7_countWays_21 F7_22, r_il4 dX7_countWays_24, r_iald dX7_countWays_26, r_if_eq (tgt := 55) dX7_countWays_27 rfl, r_al1 dX7_countWays_30, r_getf dX7_countWays_31 F7_90, r_il4 dX7_countWays_34, r_iconst dX7_countWays_36 kim1, r_ixor dX7_countWays_37, r_iand dX7_countWays_38, r_if_ne (tgt := 55) dX7_countWays_39 rfl, r_al1 dX7_countWays_42, r_getf dX7_countWays_43 F7_93, r_il4 dX7_countWays_46, r_iand dX7_countWays_48, r_if_ne (tgt := 55) dX7_countWays_49 rfl, r_ii2 dX7_countWays_52 kn1, r_ii4 dX7_countWays_55 kn1, r_gotoB (tgt := 14) dX7_countWays_58 rfl, r_il2 dX7_countWays_61, r_iret dX7_countWays_62 (Nat.zero_le _) (Nat.zero_le _), List.cons_append, List.nil_append, Nat.reduceAdd, Option.toList, aI_ok, cat_f, cat_i, cat_n, cat_r, eq_self, g1_4, g1_5, g7_3, true_and, z0, hP.r, rd_own hP.r, hP.r3, rd_own hP.r3, hG.r, rd_own hG.r, hG.r, rd_own hG.r]
    simp (disch := omega) only [E2, nI_1, nI_add, nI_leI, nI_ltI, nI_eq, nI_clamp]
    exact ⟨fun _ => hQ, fun h => absurd (by omega) h⟩
  · intro k hk ih
    simp only [r_il4 dX7_countWays_14, r_il3 dX7_countWays_16, r_ic_gt (tgt := 61) dX7_countWays_17 rfl, r_al0 dX7_countWays_20, r_getf dX7_countWays_21 F7_22, r_il4 dX7_countWays_24, r_iald dX7_countWays_26, r_if_eq (tgt := 55) dX7_countWays_27 rfl, r_al1 dX7_countWays_30, r_getf dX7_countWays_31 F7_90, r_il4 dX7_countWays_34, r_iconst dX7_countWays_36 kim1, r_ixor dX7_countWays_37, r_iand dX7_countWays_38, r_if_ne (tgt := 55) dX7_countWays_39 rfl, r_al1 dX7_countWays_42, r_getf dX7_countWays_43 F7_93, r_il4 dX7_countWays_46, r_iand dX7_countWays_48, r_if_ne (tgt := 55) dX7_countWays_49 rfl, r_ii2 dX7_countWays_52 kn1, r_ii4 dX7_countWays_55 kn1, r_gotoB (tgt := 14) dX7_countWays_58 rfl, r_il2 dX7_countWays_61, r_iret dX7_countWays_62 (Nat.zero_le _) (Nat.zero_le _), List.cons_append, List.nil_append, Nat.reduceAdd, Option.toList, aI_ok, cat_f, cat_i, cat_n, cat_r, eq_self, g1_4, g1_5, g7_3, true_and, z0, hP.r, rd_own hP.r, hP.r3, rd_own hP.r3, hG.r, rd_own hG.r, hG.r, rd_own hG.r]
    have hl := wysv_le (A 3) (pu 4) (pu 5) k
    simp (disch := omega) only [E2, nI_1, nI_add, nI_leI, nI_ltI, nI_eq, nI_clamp]
    have h1 := vp_in_nI (show k < 4096 by omega) (by omega)
    unfold wysv at ih
    grind
theorem c_bestToAsk (hP : TA hm p u A R) (hG : PG hm g pu pA) (hn : pu 2 = nI n) (hn12 : n ≤ 12) (hQ : Q (some (.int (bst (pA 10) (pA 12) (A 5) n n).1)) hm hs) : CC X EV (d + 3) 94 [.ref p, .ref g] hm hs Q := by
  refine c_of (ls2 := [.ref p, .ref g, .null, .null, .null, .null, .null]) Y94 (Nat.le_of_ble_eq_true rfl) rfl I94 ?_
  simp only [r_iconst dX7_bestToAsk_0 kim1, r_is2 dX7_bestToAsk_1, r_iconst dX7_bestToAsk_2 ki0, r_is3 dX7_bestToAsk_3, r_iconst dX7_bestToAsk_4 ki0, r_is4 dX7_bestToAsk_5, List.cons_append, List.nil_append, Nat.reduceAdd, Option.toList, cat_f, cat_i, cat_n, cat_r, eq_self, true_and, z0]
  suffices H : ∀ a, a ≤ n → ∀ w1 w2, E1 X EV (d + 2) 7 0 0 (some .int) false cX7_bestToAsk Q 7 [.ref p, .ref g, .int (bst (pA 10) (pA 12) (A 5) n a).1, .int (bst (pA 10) (pA 12) (A 5) n a).2, .int (nI a), w1, w2] [] 0 0 hm hs from H 0 (Nat.zero_le _) _ _
  refine up_loop n _ ?_ ?_
  · intro w1 w2
    simp only [r_il4 dX7_bestToAsk_7, r_al1 dX7_bestToAsk_9, r_getf dX7_bestToAsk_10 F7_40, r_ic_ge (tgt := 123) dX7_bestToAsk_13 rfl, r_il4 dX7_bestToAsk_16, r_iconst dX7_bestToAsk_18 ki1, r_iadd dX7_bestToAsk_19, r_is5 dX7_bestToAsk_20, r_il2 dX7_bestToAsk_123, r_iret dX7_bestToAsk_124 (Nat.zero_le _) (Nat.zero_le _), List.cons_append, List.nil_append, Nat.reduceAdd, Option.toList, cat_f, cat_i, cat_n, cat_r, eq_self, g1_2, true_and, z0, hG.r, rd_own hG.r, hG.r, rd_own hG.r, hn]
    exact ⟨fun _ => hQ, fun h => absurd (Int32.le_refl _) h⟩
  · intro a ha ih w1 w2
    simp only [r_il4 dX7_bestToAsk_7, r_al1 dX7_bestToAsk_9, r_getf dX7_bestToAsk_10 F7_40, r_ic_ge (tgt := 123) dX7_bestToAsk_13 rfl, r_il4 dX7_bestToAsk_16, r_iconst dX7_bestToAsk_18 ki1, r_iadd dX7_bestToAsk_19, r_is5 dX7_bestToAsk_20, r_il2 dX7_bestToAsk_123, r_iret dX7_bestToAsk_124 (Nat.zero_le _) (Nat.zero_le _), List.cons_append, List.nil_append, Nat.reduceAdd, Option.toList, cat_f, cat_i, cat_n, cat_r, eq_self, g1_2, true_and, z0, hG.r, rd_own hG.r, hG.r, rd_own hG.r, hn]
    simp (disch := omega) only [E2, nI_1, nI_add, nI_leI, nI_ltI, nI_eq, nI_clamp]
    refine ⟨fun h => absurd h (by omega), fun _ => ?_⟩
    suffices H : ∀ j, j ≤ n - 1 - a → ∀ w2, E1 X EV (d + 2) 7 0 0 (some .int) false cX7_bestToAsk Q 22 [.ref p, .ref g, .int (bst1 (pA 10) (pA 12) (A 5) a j (bst (pA 10) (pA 12) (A 5) n a)).1, .int (bst1 (pA 10) (pA 12) (A 5) a j (bst (pA 10) (pA 12) (A 5) n a)).2, .int (nI a), .int (nI (a + 1 + j)), w2] [] 0 0 hm hs from H 0 (Nat.zero_le _) _
    refine up_loop (n - 1 - a) _ ?_ ?_
    · intro w2
      simp only [r_il5 dX7_bestToAsk_22, r_al1 dX7_bestToAsk_24, r_getf dX7_bestToAsk_25 F7_40, r_ic_ge (tgt := 117) dX7_bestToAsk_28 rfl, r_al1 dX7_bestToAsk_31, r_il4 dX7_bestToAsk_32, r_il5 dX7_bestToAsk_34, r_ii4 dX7_bestToAsk_117 kn1, r_gotoB (tgt := 7) dX7_bestToAsk_120 rfl, List.cons_append, List.nil_append, Nat.reduceAdd, Option.toList, cat_f, cat_i, cat_n, cat_r, eq_self, g1_2, true_and, z0, hG.r, rd_own hG.r, hG.r, rd_own hG.r, hn]
      simp (disch := omega) only [E2, nI_1, nI_add, nI_leI, nI_ltI, nI_eq, nI_clamp]
      exact ⟨fun _ => ih _ _, fun h => absurd (by omega) h⟩
    · intro j hj ih2 w2
      simp only [r_il5 dX7_bestToAsk_22, r_al1 dX7_bestToAsk_24, r_getf dX7_bestToAsk_25 F7_40, r_ic_ge (tgt := 117) dX7_bestToAsk_28 rfl, r_al1 dX7_bestToAsk_31, r_il4 dX7_bestToAsk_32, r_il5 dX7_bestToAsk_34, r_ii4 dX7_bestToAsk_117 kn1, r_gotoB (tgt := 7) dX7_bestToAsk_120 rfl, List.cons_append, List.nil_append, Nat.reduceAdd, Option.toList, cat_f, cat_i, cat_n, cat_r, eq_self, g1_2, true_and, z0, hG.r, rd_own hG.r, hG.r, rd_own hG.r, hn]
      simp (disch := omega) only [E2, nI_1, nI_add, nI_leI, nI_ltI, nI_eq, nI_clamp]
      refine ⟨fun h => absurd h (by omega), fun _ => ?_⟩
      have hb : a + 1 + j < 12 := by omega
      have ih2 := ih2
      rw [bst1] at ih2
      have hA : a < 12 := by omega
      generalize hq : bst1 (pA 10) (pA 12) (A 5) a j (bst (pA 10) (pA 12) (A 5) n a) = q at ih2 ⊢
      have e : nI a * 12 + nI (a + 1 + j) = nI (a * 12 + (a + 1 + j)) := by rw [show (12 : Int32) = nI 12 from rfl, pk_mul, nI_add]
      have hlast : ¬ (bt (pA 10 a) (a + 1 + j) = true ∧ bt (pA 12 a) (a + 1 + j) = false ∧ bt (pA 12 (a + 1 + j)) a = false) → E1 X EV (d + 2) 7 0 0 (some .int) false cX7_bestToAsk Q 68 [.ref p, .ref g, .int q.1, .int q.2, .int (nI a), .int (nI (a + 1 + j)), w2] [] 0 0 hm hs := by
        intro hc
        simp only [r_iconst dX7_bestToAsk_68 ki0, r_is6 dX7_bestToAsk_69, r_il6 dX7_bestToAsk_71, r_if_eq (tgt := 111) dX7_bestToAsk_73 rfl, r_il2 dX7_bestToAsk_76, r_iconst dX7_bestToAsk_77 kim1, r_ic_eq (tgt := 93) dX7_bestToAsk_78 rfl, r_al0 dX7_bestToAsk_81, r_il4 dX7_bestToAsk_82, r_il5 dX7_bestToAsk_84, r_il4 dX7_bestToAsk_93, r_bipush dX7_bestToAsk_95 kb12, r_imul dX7_bestToAsk_97, r_il5 dX7_bestToAsk_98, r_iadd dX7_bestToAsk_100, r_is2 dX7_bestToAsk_101, r_al0 dX7_bestToAsk_102, r_il4 dX7_bestToAsk_103, r_il5 dX7_bestToAsk_105, r_ii5 dX7_bestToAsk_111 kn1, r_gotoB (tgt := 22) dX7_bestToAsk_114 rfl, List.cons_append, List.nil_append, Nat.reduceAdd, Option.toList, cat_f, cat_i, cat_n, cat_r, eq_self, true_and, z0]
        simp (disch := omega) only [E2, nI_1, nI_add, nI_leI, nI_ltI, nI_eq, nI_clamp]
        rw [if_neg (fun z => hc z.1)] at ih2
        exact ⟨fun _ => ih2 _, fun h => absurd trivial h⟩
      refine r_iv3 dX7_bestToAsk_36 M7_78 Y14 O14 (Nat.le_of_ble_eq_true rfl) (rcv_own hG.r) (Nat.le_refl _) (Nat.le_refl _) ?_
      refine c_isCrossing hG hA (by omega) ?_
      simp only [r_if_eqB (tgt := 68) dX7_bestToAsk_39 rfl, r_al1 dX7_bestToAsk_42, r_il4 dX7_bestToAsk_43, r_il5 dX7_bestToAsk_45, List.cons_append, List.nil_append, Nat.reduceAdd, Option.toList, z0]
      refine ⟨fun h => ?_, fun h => ?_⟩
      · simp (disch := omega) only [E2, nI_1, nI_add, nI_leI, nI_ltI, nI_eq, nI_clamp]
        exact hlast (fun z => h z.1)
      refine r_iv3 dX7_bestToAsk_47 M7_82 Y16 O16 (Nat.le_of_ble_eq_true rfl) (rcv_own hG.r) (Nat.le_refl _) (Nat.le_refl _) ?_
      refine c_isOver hG hA (by omega) ?_
      simp only [r_if_neB (tgt := 68) dX7_bestToAsk_50 rfl, r_al1 dX7_bestToAsk_53, r_il5 dX7_bestToAsk_54, r_il4 dX7_bestToAsk_56, List.cons_append, List.nil_append, Nat.reduceAdd, Option.toList, z0]
      refine ⟨fun h2 => ?_, fun h2 => ?_⟩
      · simp (disch := omega) only [E2, nI_1, nI_add, nI_leI, nI_ltI, nI_eq, nI_clamp]
        exact hlast (fun z => by grind)
      refine r_iv3 dX7_bestToAsk_58 M7_82 Y16 O16 (Nat.le_of_ble_eq_true rfl) (rcv_own hG.r) (Nat.le_refl _) (Nat.le_refl _) ?_
      refine c_isOver hG hb (by omega) ?_
      simp only [r_if_neB (tgt := 68) dX7_bestToAsk_61 rfl, r_iconst dX7_bestToAsk_64 ki1, r_goto (tgt := 69) dX7_bestToAsk_65 rfl, r_is6 dX7_bestToAsk_69, r_il6 dX7_bestToAsk_71, r_if_eq (tgt := 111) dX7_bestToAsk_73 rfl, r_il2 dX7_bestToAsk_76, r_iconst dX7_bestToAsk_77 kim1, r_ic_eqB (tgt := 93) dX7_bestToAsk_78 rfl, r_al0 dX7_bestToAsk_81, r_il4 dX7_bestToAsk_82, r_il5 dX7_bestToAsk_84, r_ii5 dX7_bestToAsk_111 kn1, r_gotoB (tgt := 22) dX7_bestToAsk_114 rfl, List.cons_append, List.nil_append, Nat.reduceAdd, Option.toList, cat_f, cat_i, cat_n, cat_r, eq_self, true_and, z0]
      refine ⟨fun h3 => ?_, fun h3 => ?_⟩
      · simp (disch := omega) only [E2, nI_1, nI_add, nI_leI, nI_ltI, nI_eq, nI_clamp]
        exact hlast (fun z => by grind)
      have hc : bt (pA 10 a) (a + 1 + j) = true ∧ bt (pA 12 a) (a + 1 + j) = false ∧ bt (pA 12 (a + 1 + j)) a = false := by grind
      have key : (q.1 = -1 ∨ askd (A 5) a (a + 1 + j) < q.2) → ∀ w2, E1 X EV (d + 2) 7 0 0 (some .int) false cX7_bestToAsk Q 93 [.ref p, .ref g, .int q.1, .int q.2, .int (nI a), .int (nI (a + 1 + j)), w2] [] 0 0 hm hs := by
        intro hd w2
        simp only [r_il4 dX7_bestToAsk_93, r_bipush dX7_bestToAsk_95 kb12, r_imul dX7_bestToAsk_97, r_il5 dX7_bestToAsk_98, r_iadd dX7_bestToAsk_100, r_is2 dX7_bestToAsk_101, r_al0 dX7_bestToAsk_102, r_il4 dX7_bestToAsk_103, r_il5 dX7_bestToAsk_105, List.cons_append, List.nil_append, Nat.reduceAdd, Option.toList, cat_f, cat_i, cat_n, cat_r, eq_self, true_and, z0, e]
        refine r_iv3 dX7_bestToAsk_107 M7_85 Y93 O93 (Nat.le_of_ble_eq_true rfl) (rcv_own hP.r) (Nat.le_refl _) (Nat.le_refl _) ?_
        refine c_asked hP hA hb ?_
        simp only [r_is3 dX7_bestToAsk_110, r_ii5 dX7_bestToAsk_111 kn1, r_gotoB (tgt := 22) dX7_bestToAsk_114 rfl, List.cons_append, List.nil_append, Nat.reduceAdd, Option.toList, cat_f, cat_i, cat_n, cat_r, eq_self, true_and, z0]
        simp (disch := omega) only [E2, nI_1, nI_add, nI_leI, nI_ltI, nI_eq, nI_clamp]
        rw [if_pos ⟨hc, hd⟩] at ih2
        exact ih2 _
      refine ⟨fun h => absurd h (by decide), fun _ => ⟨fun h => ?_, fun h => ?_⟩⟩
      · simp (disch := omega) only [E2, nI_1, nI_add, nI_leI, nI_ltI, nI_eq, nI_clamp]
        exact key (Or.inl h) _
      refine r_iv3 dX7_bestToAsk_86 M7_85 Y93 O93 (Nat.le_of_ble_eq_true rfl) (rcv_own hP.r) (Nat.le_refl _) (Nat.le_refl _) ?_
      refine c_asked hP hA hb ?_
      simp only [r_il3 dX7_bestToAsk_89, r_ic_ge (tgt := 111) dX7_bestToAsk_90 rfl, r_ii5 dX7_bestToAsk_111 kn1, r_gotoB (tgt := 22) dX7_bestToAsk_114 rfl, List.cons_append, List.nil_append, Nat.reduceAdd, Option.toList, cat_f, cat_i, cat_n, cat_r, eq_self, true_and, z0]
      refine ⟨fun h5 => ?_, fun h5 => ?_⟩
      · simp (disch := omega) only [E2, nI_1, nI_add, nI_leI, nI_ltI, nI_eq, nI_clamp]
        rw [if_neg (by grind)] at ih2
        exact ih2 _
      · exact key (Or.inr (by grind)) _
/-! ===== RingShown ===== -/
theorem acc_t {P : Nat → Prop} [DecidablePred P] {k : Nat} (h : P k) : acc P (k + 1) = acc P k ||| sb k := if_pos h
theorem acc_f {P : Nat → Prop} [DecidablePred P] {k : Nat} (h : ¬ P k) : acc P (k + 1) = acc P k := if_neg h
def stp (T : Nat → Int32) (n a : Nat) : Nat → Int32 × Int32
  | 0 => (sb a, sb a)
  | i + 1 => (acc (fun k => bt (stp T n a i).2 k = false ∧ T k &&& (stp T n a i).1 ≠ 0) n, (stp T n a i).2 ||| acc (fun k => bt (stp T n a i).2 k = false ∧ T k &&& (stp T n a i).1 ≠ 0) n)
theorem c_countSteps {a b : Nat} (hP : RG hm p u A) (hG : PG hm g pu pA) (hpg : p + 3 ≤ g ∨ g + 10 ≤ p) (hn : pu 2 = nI n) (hn12 : n ≤ 12) (ha : a < 12) (hb : b < 12)
    (hQ : ∀ hm' A' far, RG hm' p u A' → (∀ s, s ≠ 2 → A' s = A s) → far ≤ 11 → (∀ j, j ≤ far → A' 2 j = (stp (pA 11) n a j).1) → (∀ j, j < far → bt (stp (pA 11) n a j).2 b = false) → (far = 11 ∨ bt (stp (pA 11) n a far).2 b = true) → sm p (p + 3) hm hm' → Q (some (.int (nI far))) hm' hs) : CC X EV (d + 1) 57 [.ref p, .ref g, .int (nI a), .int (nI b)] hm hs Q := by
  refine c_of (ls2 := [.ref p, .ref g, .int (nI a), .int (nI b), .null, .null, .null, .null]) Y57 (Nat.le_of_ble_eq_true rfl) rfl I57 ?_
  simp (disch := first | omega | (simp only [List.length_cons, List.length_nil]; omega)) only [r_iconst dX3_countSteps_0 ki1, r_il2 dX3_countSteps_1, r_ishl dX3_countSteps_2, r_is4 dX3_countSteps_3, r_al0 dX3_countSteps_5, r_getf dX3_countSteps_6 F3_19, r_iconst dX3_countSteps_9 ki0, r_il4 dX3_countSteps_10, r_iast dX3_countSteps_12, r_iconst dX3_countSteps_13 ki0, r_is5 dX3_countSteps_14, r_iconst dX3_countSteps_16 ki1, r_is6 dX3_countSteps_17, List.cons_append, List.nil_append, Nat.reduceAdd, Option.toList, cat_f, cat_i, cat_n, cat_r, eq_self, g3_2, pk_un, pk_us, rd_up_eq, rd_up_ne, sI_ok, true_and, up_eq, up_ne, up_up, z0, hP.r, rd_own hP.r, hP.r2, rd_own hP.r2, show (0 : Int32) = nI 0 from rfl, nI_clamp (show 0 < 2 ^ 31 by omega)]
  refine ⟨vp_in_nI (by omega) (by omega), ?_⟩
  suffices H : ∀ i, i ≤ 11 → ∀ w hm' A', RG hm' p u A' → PG hm' g pu pA → (∀ s, s ≠ 2 → A' s = A s) → (∀ j, j ≤ i → A' 2 j = (stp (pA 11) n a j).1) → (∀ j, j < i → bt (stp (pA 11) n a j).2 b = false) → sm p (p + 3) hm hm' → E1 X EV d 3 0 0 (some .int) false cX3_countSteps Q 19 [.ref p, .ref g, .int (nI a), .int (nI b), .int (stp (pA 11) n a i).2, .int (nI i), .int (nI (i + 1)), w] [] 0 0 hm' hs from
    H 0 (by omega) _ _ _ (hP.w2 _) (hG.k (by omega)) (fun s h => by rw [vu_ne h]) (fun j hj => by rw [vu_eq, show j = 0 by omega, pk_us]; rfl) (fun j hj => absurd hj (Nat.not_lt_zero j)) (sm.rf.up (by omega))
  refine up_loop 11 _ ?_ ?_
  · intro w hm' A' hP' hG' h1 h2 h3 h4
    simp (disch := first | omega | (simp only [List.length_cons, List.length_nil]; omega)) only [r_il6 dX3_countSteps_19, r_bipush dX3_countSteps_21 kb12, r_ic_ge (tgt := 127) dX3_countSteps_23 rfl, r_il4 dX3_countSteps_26, r_il3 dX3_countSteps_28, r_ishr dX3_countSteps_29, r_iconst dX3_countSteps_30 ki1, r_iand dX3_countSteps_31, r_if_ne (tgt := 127) dX3_countSteps_32 rfl, r_al0 dX3_countSteps_35, r_getf dX3_countSteps_36 F3_19, r_il6 dX3_countSteps_39, r_iconst dX3_countSteps_41 ki0, r_iast dX3_countSteps_42, r_iconst dX3_countSteps_43 ki0, r_is7 dX3_countSteps_44, r_il5 dX3_countSteps_127, r_iret dX3_countSteps_129 (Nat.zero_le _) (Nat.zero_le _), List.cons_append, List.nil_append, Nat.reduceAdd, Option.toList, cat_f, cat_i, cat_n, cat_r, eq_self, g3_2, pk_un, pk_us, rd_up_eq, rd_up_ne, sI_ok, true_and, up_eq, up_ne, up_up, z0, show (12 : Int32) = nI 12 from rfl]
    exact ⟨fun _ => hQ hm' A' 11 hP' h1 (by omega) h2 h3 (Or.inl rfl) h4, fun h => absurd (Int32.le_refl _) h⟩
  · intro i hi ih w hm' A' hP' hG' h1 h2 h3 h4
    simp (disch := first | omega | (simp only [List.length_cons, List.length_nil]; omega)) only [r_il6 dX3_countSteps_19, r_bipush dX3_countSteps_21 kb12, r_ic_geB (tgt := 127) dX3_countSteps_23 rfl, r_il4 dX3_countSteps_26, r_il3 dX3_countSteps_28, r_ishr dX3_countSteps_29, r_iconst dX3_countSteps_30 ki1, r_iand dX3_countSteps_31, r_if_neB (tgt := 127) dX3_countSteps_32 rfl, r_al0 dX3_countSteps_35, r_getf dX3_countSteps_36 F3_19, r_il6 dX3_countSteps_39, r_iconst dX3_countSteps_41 ki0, r_iast dX3_countSteps_42, r_iconst dX3_countSteps_43 ki0, r_is7 dX3_countSteps_44, List.cons_append, List.nil_append, Nat.reduceAdd, Option.toList, cat_f, cat_i, cat_n, cat_r, eq_self, g3_2, pk_un, pk_us, rd_up_eq, rd_up_ne, sI_ok, true_and, up_eq, up_ne, up_up, z0, hP'.r, rd_own hP'.r, hP'.r2, rd_own hP'.r2, show (12 : Int32) = nI 12 from rfl, tst0 (show b < 32 by omega)]
    simp (disch := omega) only [E2, nI_1, nI_add, nI_leI, nI_ltI, nI_eq, nI_clamp]
    refine ⟨fun h => absurd h (by omega), fun _ => ⟨fun hb1 => ?_, fun hb1 => ⟨vp_in_nI (by omega) (by omega), ?_⟩⟩⟩
    · skip
      simp only [r_il5 dX3_countSteps_127, r_iret dX3_countSteps_129 (Nat.zero_le _) (Nat.zero_le _), List.cons_append, List.nil_append, Nat.reduceAdd, Option.toList, z0]
      exact hQ hm' A' i hP' h1 (by omega) h2 h3 (Or.inr (by simpa using hb1)) h4
    · have hb2 : bt (stp (pA 11) n a i).2 b = false := Classical.not_not.mp hb1
      suffices H : ∀ k, k ≤ n → ∀ hm2 A2, RG hm2 p u A2 → PG hm2 g pu pA → (∀ s, s ≠ 2 → A2 s = A s) → (∀ j, j ≤ i → A2 2 j = (stp (pA 11) n a j).1) → A2 2 (i + 1) = acc (fun k => bt (stp (pA 11) n a i).2 k = false ∧ pA 11 k &&& (stp (pA 11) n a i).1 ≠ 0) k → sm p (p + 3) hm hm2 → E1 X EV d 3 0 0 (some .int) false cX3_countSteps Q 46 [.ref p, .ref g, .int (nI a), .int (nI b), .int (stp (pA 11) n a i).2, .int (nI i), .int (nI (i + 1)), .int (nI k)] [] 0 0 hm2 hs from
        H 0 (by omega) _ _ (hP'.w2 _) (hG'.k (by omega)) (fun s h => by rw [vu_ne h]; exact h1 s h) (fun j hj => by rw [vu_eq, pk_un (by omega)]; exact h2 j hj) (by rw [vu_eq, pk_us]; rfl) (h4.up (by omega))
      refine up_loop n _ ?_ ?_
      · intro hm2 A2 hP2 hG2 g1 g2 g3 g4
        simp (disch := first | omega | (simp only [List.length_cons, List.length_nil]; omega)) only [r_il7 dX3_countSteps_46, r_al1 dX3_countSteps_48, r_getf dX3_countSteps_49 F3_37, r_ic_ge (tgt := 105) dX3_countSteps_52 rfl, r_il4 dX3_countSteps_55, r_il7 dX3_countSteps_57, r_ishr dX3_countSteps_59, r_iconst dX3_countSteps_60 ki1, r_iand dX3_countSteps_61, r_if_ne (tgt := 99) dX3_countSteps_62 rfl, r_al1 dX3_countSteps_65, r_getf dX3_countSteps_66 F3_26, r_il7 dX3_countSteps_69, r_iald dX3_countSteps_71, r_al0 dX3_countSteps_72, r_getf dX3_countSteps_73 F3_19, r_il6 dX3_countSteps_76, r_iconst dX3_countSteps_78 ki1, r_isub dX3_countSteps_79, r_iald dX3_countSteps_80, r_iand dX3_countSteps_81, r_if_eq (tgt := 99) dX3_countSteps_82 rfl, r_al0 dX3_countSteps_85, r_getf dX3_countSteps_86 F3_19, r_il6 dX3_countSteps_89, r_dup2_ir dX3_countSteps_91, r_dup2_l dX3_countSteps_91, r_iald dX3_countSteps_92, r_iconst dX3_countSteps_93 ki1, r_il7 dX3_countSteps_94, r_ishl dX3_countSteps_96, r_ior dX3_countSteps_97, r_iast dX3_countSteps_98, r_ii7 dX3_countSteps_99 kn1, r_gotoB (tgt := 46) dX3_countSteps_102 rfl, r_il4 dX3_countSteps_105, r_al0 dX3_countSteps_107, r_getf dX3_countSteps_108 F3_19, r_il6 dX3_countSteps_111, r_iald dX3_countSteps_113, r_ior dX3_countSteps_114, r_is4 dX3_countSteps_115, r_il6 dX3_countSteps_117, r_is5 dX3_countSteps_119, r_ii6 dX3_countSteps_121 kn1, r_gotoB (tgt := 19) dX3_countSteps_124 rfl, List.cons_append, List.nil_append, Nat.reduceAdd, Option.toList, aI_ok, cat_f, cat_i, cat_n, cat_r, eq_self, g1_11, g1_2, g3_2, pk_un, pk_us, rd_up_eq, rd_up_ne, sI_ok, true_and, up_eq, up_ne, up_up, z0, hP2.r, rd_own hP2.r, hP2.r2, rd_own hP2.r2, hG2.r, rd_own hG2.r, hG2.r, rd_own hG2.r, hn, nI_clamp (show i + 1 < 2 ^ 31 by omega), g3]
        simp (disch := omega) only [E2, nI_1, nI_add, nI_leI, nI_ltI, nI_eq, nI_clamp]
        refine ⟨fun _ => ⟨vp_in_nI (by omega) (by omega), ?_⟩, fun h => absurd (by omega) h⟩
        refine ih _ hm2 A2 hP2 hG2 g1 (fun j hj => ?_) (fun j hj => ?_) g4
        · rcases Nat.lt_or_ge j (i + 1) with h | h
          · exact g2 j (by omega)
          · rw [show j = i + 1 by omega, g3]; rfl
        · rcases Nat.lt_or_ge j i with h | h
          · exact h3 j h
          · rw [show j = i by omega]; exact hb2
      · intro k hk ih2 hm2 A2 hP2 hG2 g1 g2 g3 g4
        have e0 : nI (i + 1) - 1 = nI i := nI_pred i
        have e1 : A2 2 (nI (i + 1) - 1).toNatClampNeg = (stp (pA 11) n a i).1 := by rw [e0, nI_clamp (by omega)]; exact g2 i (by omega)
        simp (disch := first | omega | (simp only [List.length_cons, List.length_nil]; omega)) only [r_il7 dX3_countSteps_46, r_al1 dX3_countSteps_48, r_getf dX3_countSteps_49 F3_37, r_ic_ge (tgt := 105) dX3_countSteps_52 rfl, r_il4 dX3_countSteps_55, r_il7 dX3_countSteps_57, r_ishr dX3_countSteps_59, r_iconst dX3_countSteps_60 ki1, r_iand dX3_countSteps_61, r_if_ne (tgt := 99) dX3_countSteps_62 rfl, r_al1 dX3_countSteps_65, r_getf dX3_countSteps_66 F3_26, r_il7 dX3_countSteps_69, r_iald dX3_countSteps_71, r_al0 dX3_countSteps_72, r_getf dX3_countSteps_73 F3_19, r_il6 dX3_countSteps_76, r_iconst dX3_countSteps_78 ki1, r_isub dX3_countSteps_79, r_iald dX3_countSteps_80, r_iand dX3_countSteps_81, r_if_eq (tgt := 99) dX3_countSteps_82 rfl, r_al0 dX3_countSteps_85, r_getf dX3_countSteps_86 F3_19, r_il6 dX3_countSteps_89, r_dup2_ir dX3_countSteps_91, r_dup2_l dX3_countSteps_91, r_iald dX3_countSteps_92, r_iconst dX3_countSteps_93 ki1, r_il7 dX3_countSteps_94, r_ishl dX3_countSteps_96, r_ior dX3_countSteps_97, r_iast dX3_countSteps_98, r_ii7 dX3_countSteps_99 kn1, r_gotoB (tgt := 46) dX3_countSteps_102 rfl, r_il4 dX3_countSteps_105, r_al0 dX3_countSteps_107, r_getf dX3_countSteps_108 F3_19, r_il6 dX3_countSteps_111, r_iald dX3_countSteps_113, r_ior dX3_countSteps_114, r_is4 dX3_countSteps_115, r_il6 dX3_countSteps_117, r_is5 dX3_countSteps_119, r_ii6 dX3_countSteps_121 kn1, r_gotoB (tgt := 19) dX3_countSteps_124 rfl, List.cons_append, List.nil_append, Nat.reduceAdd, Option.toList, aI_ok, cat_f, cat_i, cat_n, cat_r, eq_self, g1_11, g1_2, g3_2, pk_un, pk_us, rd_up_eq, rd_up_ne, sI_ok, true_and, up_eq, up_ne, up_up, z0, hP2.r, rd_own hP2.r, hP2.r2, rd_own hP2.r2, hG2.r, rd_own hG2.r, hG2.r11, rd_own hG2.r11, hn, tst0 (show k < 32 by omega), e0]
        simp (disch := omega) only [E2, nI_1, nI_add, nI_leI, nI_ltI, nI_eq, nI_clamp]
        have hik := vp_in_nI (show k < 12 by omega) (by omega)
        have hii := vp_in_nI (show i < 12 by omega) (by omega)
        have hij := vp_in_nI (show i + 1 < 12 by omega) (by omega)
        rw [g2 i (by omega)]
        refine ⟨fun h => absurd h (by omega), fun _ => ⟨fun hc => ?_, fun hc => ⟨hik, hii, fun hd => ?_, fun hd => ⟨hij, hij, ?_⟩⟩⟩⟩
        · exact ih2 hm2 A2 hP2 hG2 g1 g2 (by rw [g3, acc_f (fun z => hc z.1)]) g4
        · exact ih2 hm2 A2 hP2 hG2 g1 g2 (by rw [g3, acc_f (fun z => z.2 hd)]) g4
        · refine ih2 _ _ (hP2.w2 _) (hG2.k (by omega)) (fun s h => by rw [vu_ne h]; exact g1 s h) (fun j hj => by rw [vu_eq, pk_un (by omega)]; exact g2 j hj) ?_ (g4.up (by omega))
          rw [vu_eq, pk_us, g3, acc_t ⟨Classical.not_not.mp hc, hd⟩]
          rfl
end T2
