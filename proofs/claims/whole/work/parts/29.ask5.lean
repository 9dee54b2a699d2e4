theorem bst1_form {cr bl E : Nat → Int32} {n a : Nat} (ha : a < n) (q : Int32 × Int32) (hq : q.1 = -1 ∨ ∃ a b, a < b ∧ b < n ∧ q.1 = nI (a * 12 + b) ∧ q.2 = askd E a b) (j : Nat) (hj : j ≤ n - 1 - a) : (bst1 cr bl E a j q).1 = -1 ∨ ∃ a' b, a' < b ∧ b < n ∧ (bst1 cr bl E a j q).1 = nI (a' * 12 + b) ∧ (bst1 cr bl E a j q).2 = askd E a' b := by
  induction j with
  | zero => exact hq
  | succ j ih =>
    rw [bst1]
    split
    · exact Or.inr ⟨a, a + 1 + j, by omega, by omega, rfl, rfl⟩
    · exact ih (by omega)
theorem bst_form {cr bl E : Nat → Int32} {n : Nat} (m : Nat) (hm : m ≤ n) : (bst cr bl E n m).1 = -1 ∨ ∃ a b, a < b ∧ b < n ∧ (bst cr bl E n m).1 = nI (a * 12 + b) ∧ (bst cr bl E n m).2 = askd E a b := by
  induction m with
  | zero => exact Or.inl rfl
  | succ m ih => exact bst1_form (by omega) _ (ih (by omega)) _ (Nat.le_refl _)
theorem dv12 : ∀ m, m < 144 → nI m / 12 = nI (m / 12) ∧ nI m - nI (m / 12) * 12 = nI (m % 12) := by decide +kernel
def cfs (F : Nat → Int32) : Nat → Int32
  | 0 => 0
  | k + 1 => cfs F k + pcnt (F k)
section Q5
variable {X : HM} {EV : Nat → Value} {d : Nat} {hm : HM} {hs : Nat} {Q : QT} {t pa pb qa qb : Nat} {V : Nat → Nat → Int32} {AA : Nat → Nat → Nat → Int32} {R : Nat → Int64} {B n w h nl np nw nr : Nat}
theorem c_asking {wh : Int32} (hW : TW hm t pa pb qa qb V AA R) (e2 : V 0 2 = nI n) (l2 : n ≤ 12) (hc : V 7 0 = 0 → tb1 (AA 0 12) n (AA 7 3) (V 7 2)) (hc2 : V 7 1 = 0 → tb2 (AA 0 12) n (AA 7 5) R)
    (h0 : ¬ (0 ≤ wh ∧ wh ≤ 2) → Q (some (.long (-2))) hm hs)
    (hQ : 0 ≤ wh → wh ≤ 2 → ∀ hm' V' AA' R', TW hm' t pa pb qa qb V' AA' R' → KX 7 V V' AA AA' → V' 7 0 = 0 → V' 7 1 = 0 → tb1 (AA 0 12) n (AA' 7 3) (V' 7 2) → tb2 (AA 0 12) n (AA' 7 5) R' → sm t (t + 70) hm hm' →
      ((bst (AA 0 10) (AA 0 12) (AA' 7 5) n n).1 = -1 → Q (some (.long (-1))) hm' hs) ∧ (∀ a b, a < b → b < n → (bst (AA 0 10) (AA 0 12) (AA' 7 5) n n).1 = nI (a * 12 + b) → Q (some (.long (if wh = 2 then (askd (AA' 7 5) a b).toInt64 else if wh = 0 then (nI a).toInt64 else (nI b).toInt64))) hm' hs)) : CC X EV (d + 5) 135 [.ref t, .int wh] hm hs Q := by
  refine c_of (ls2 := [.ref t, .int wh, .null, .null, .null]) Y135 (Nat.le_of_ble_eq_true rfl) rfl I135 ?_
  simp only [r_il1 dX9_asking_0, r_if_lt (tgt := 9) dX9_asking_1 rfl, r_il1 dX9_asking_4, r_iconst dX9_asking_5 ki2, r_ic_le (tgt := 13) dX9_asking_6 rfl, r_ldc2 dX9_asking_9 K9_239, r_lret dX9_asking_12 (Nat.zero_le _) (Nat.zero_le _), r_al0 dX9_asking_13, r_getf dX9_asking_14 F9_53, r_al0 dX9_asking_17, r_getf dX9_asking_18 F9_10, List.cons_append, List.nil_append, Nat.reduceAdd, Option.toList, g9_0, g9_7, z0, hW.r, rd_own hW.r, hW.r, rd_own hW.r, th_0, th_1, th_2, th_3, th_4, th_5, th_6, th_7, th_8, th_9]
  refine ⟨fun k1 => h0 (by grind), fun k1 => ⟨fun k2 => ?_, fun k2 => h0 (by grind)⟩⟩
  refine r_iv2 dX9_asking_21 M9_241 Y89 O89 (Nat.le_of_ble_eq_true rfl) (rcv_own hW.ta.r) (Nat.le_refl _) (Nat.le_refl _) ?_
  refine c_taly2 hW e2 l2 hc hc2 (fun hm' V' AA' R' hW' h1 h2 h3 h4 h5 h6 => ?_)
  obtain ⟨g1, g2⟩ := hQ (by grind) k2 hm' V' AA' R' hW' h1 h2 h3 h4 h5 (h6.wide (by omega))
  rw [← (h1 0 (by decide)).2] at g1 g2
  rw [← (h1 0 (by decide)).1] at e2
  simp only [r_al0 dX9_asking_24, r_getf dX9_asking_25 F9_53, r_al0 dX9_asking_28, r_getf dX9_asking_29 F9_10, List.cons_append, List.nil_append, Nat.reduceAdd, Option.toList, g9_0, g9_7, z0, hW'.r, rd_own hW'.r, hW'.r, rd_own hW'.r, th_0, th_1, th_2, th_3, th_4, th_5, th_6, th_7, th_8, th_9]
  refine r_iv2 dX9_asking_32 M9_337 Y94 O94 (Nat.le_of_ble_eq_true rfl) (rcv_own hW'.ta.r) (Nat.le_refl _) (Nat.le_refl _) ?_
  refine c_bestToAsk hW'.ta hW'.pg e2 l2 ?_
  rcases bst_form (cr := AA' 0 10) (bl := AA' 0 12) (E := AA' 7 5) (n := n) n (Nat.le_refl _) with e | ⟨a, b, hab, hb, e, -⟩
  · have g1 := g1 e
    rw [e]
    simp only [r_is2 dX9_asking_35, r_il2 dX9_asking_36, r_iconst dX9_asking_37 kim1, r_ic_ne (tgt := 45) dX9_asking_38 rfl, r_ldc2 dX9_asking_41 K9_340, r_lret dX9_asking_44 (Nat.zero_le _) (Nat.zero_le _), r_il2 dX9_asking_45, r_bipush dX9_asking_46 kb12, r_idiv dX9_asking_48, r_is3 dX9_asking_49, r_il2 dX9_asking_50, r_bipush dX9_asking_51 kb12, r_irem dX9_asking_53, r_is4 dX9_asking_54, r_il1 dX9_asking_56, r_iconst dX9_asking_57 ki2, r_ic_ne (tgt := 73) dX9_asking_58 rfl, r_al0 dX9_asking_61, r_getf dX9_asking_62 F9_53, r_il3 dX9_asking_65, r_il4 dX9_asking_66, r_il1 dX9_asking_73, r_if_ne (tgt := 82) dX9_asking_74 rfl, r_il3 dX9_asking_77, r_i2l dX9_asking_78, r_goto (tgt := 85) dX9_asking_79 rfl, r_il4 dX9_asking_82, r_i2l dX9_asking_84, r_lret dX9_asking_85 (Nat.zero_le _) (Nat.zero_le _), List.cons_append, List.nil_append, Nat.reduceAdd, Option.toList, cat_f, cat_i, cat_n, cat_r, eq_self, g9_7, true_and, z0]
    exact ⟨fun h => absurd trivial h, fun _ => g1⟩
  · have g2 := g2 a b hab hb e
    rw [e]
    obtain ⟨v1, v2⟩ := dv12 (a * 12 + b) (by omega)
    rw [show (a * 12 + b) / 12 = a by omega] at v1
    rw [show (a * 12 + b) % 12 = b by omega, show (a * 12 + b) / 12 = a by omega] at v2
    simp only [r_is2 dX9_asking_35, r_il2 dX9_asking_36, r_iconst dX9_asking_37 kim1, r_ic_ne (tgt := 45) dX9_asking_38 rfl, r_ldc2 dX9_asking_41 K9_340, r_lret dX9_asking_44 (Nat.zero_le _) (Nat.zero_le _), r_il2 dX9_asking_45, r_bipush dX9_asking_46 kb12, r_idiv dX9_asking_48, r_is3 dX9_asking_49, r_il2 dX9_asking_50, r_bipush dX9_asking_51 kb12, r_irem dX9_asking_53, r_is4 dX9_asking_54, r_il1 dX9_asking_56, r_iconst dX9_asking_57 ki2, r_ic_ne (tgt := 73) dX9_asking_58 rfl, r_al0 dX9_asking_61, r_getf dX9_asking_62 F9_53, r_il3 dX9_asking_65, r_il4 dX9_asking_66, r_il1 dX9_asking_73, r_if_ne (tgt := 82) dX9_asking_74 rfl, r_il3 dX9_asking_77, r_i2l dX9_asking_78, r_goto (tgt := 85) dX9_asking_79 rfl, r_il4 dX9_asking_82, r_i2l dX9_asking_84, r_lret dX9_asking_85 (Nat.zero_le _) (Nat.zero_le _), List.cons_append, List.nil_append, Nat.reduceAdd, Option.toList, cat_f, cat_i, cat_n, cat_r, eq_self, g9_7, true_and, z0, hW'.r, rd_own hW'.r, hW'.r, rd_own hW'.r, th_0, th_1, th_2, th_3, th_4, th_5, th_6, th_7, th_8, th_9, v1, v2]
    refine ⟨fun _ => ?_, fun h => absurd (Classical.not_not.mp h) (nI_ne_m1 (by omega))⟩
    refine ⟨by decide, by decide, ⟨fun k3 => ⟨fun k4 => ?_, fun k4 => ?_⟩, fun k3 => ?_⟩⟩
    · rw [if_neg k3, if_neg k4] at g2; exact g2
    · rw [if_neg k3, if_pos (Classical.not_not.mp k4)] at g2; exact g2
    · skip
      refine r_iv3 dX9_asking_68 M9_342 Y93 O93 (Nat.le_of_ble_eq_true rfl) (rcv_own hW'.ta.r) (Nat.le_refl _) (Nat.le_refl _) ?_
      refine c_asked hW'.ta (by omega) (by omega) ?_
      simp only [r_i2l dX9_asking_71, r_lret dX9_asking_72 (Nat.zero_le _) (Nat.zero_le _), List.cons_append, List.nil_append, Nat.reduceAdd, Option.toList, z0]
      rw [if_pos (Classical.not_not.mp k3)] at g2; exact g2
theorem c_span {k wh : Int32} (hW : TW hm t pa pb qa qb V AA R) (e2 : V 0 2 = nI n) (l2 : n ≤ 12) (hc : V 7 0 = 0 → tb1 (AA 0 12) n (AA 7 3) (V 7 2)) (hc2 : V 7 1 = 0 → tb2 (AA 0 12) n (AA 7 5) R)
    (h0 : ¬ (0 ≤ k ∧ k < nI n) → Q (some (.long (-2))) hm hs) (h1 : ∀ i, i < n → k = nI i → wh ≠ 2 → Q (some (.long (if wh = 0 then (pcnt (AA 0 12 i)).toInt64 else if wh = 1 then (nI n - 1 - pcnt (AA 0 13 i)).toInt64 else -2))) hm hs)
    (hQ : ∀ i, i < n → k = nI i → wh = 2 → ∀ hm' V' AA' R', TW hm' t pa pb qa qb V' AA' R' → KX 7 V V' AA AA' → V' 7 0 = 0 → V' 7 1 = 0 → tb1 (AA 0 12) n (AA' 7 3) (V' 7 2) → tb2 (AA 0 12) n (AA' 7 5) R' → sm t (t + 70) hm hm' → Q (some (.long (if 0 < V' 7 2 then 1000 * R' i / (V' 7 2).toInt64 else 0))) hm' hs) : CC X EV (d + 5) 140 [.ref t, .int k, .int wh] hm hs Q := by
  have hp := hW.pg
  refine c_of (ls2 := [.ref t, .int k, .int wh]) Y140 (Nat.le_of_ble_eq_true rfl) rfl I140 ?_
  simp only [r_al0 dX9_span_0, r_getf dX9_span_1 F9_10, r_il1 dX9_span_4, List.cons_append, List.nil_append, Nat.reduceAdd, Option.toList, g9_0, z0, hW.r, rd_own hW.r, hW.r, rd_own hW.r, th_0, th_1, th_2, th_3, th_4, th_5, th_6, th_7, th_8, th_9]
  refine r_iv2 dX9_span_5 M9_128 Y6 O6 (Nat.le_of_ble_eq_true rfl) (rcv_own hp.r) (Nat.le_refl _) (Nat.le_refl _) ?_
  refine c_has hp ?_
  rw [e2]
  simp only [r_if_ne (tgt := 15) dX9_span_8 rfl, r_ldc2 dX9_span_11 K9_239, r_lret dX9_span_14 (Nat.zero_le _) (Nat.zero_le _), r_il2 dX9_span_15, List.cons_append, List.nil_append, Nat.reduceAdd, Option.toList, z0]
  refine ⟨fun hk => ?_, fun hk => h0 (Classical.not_not.mp hk)⟩
  obtain ⟨i, hi, rfl⟩ := ix (by omega) (Classical.not_not.mp hk)
  have hin := vp_in_nI (show i < 12 by omega) (by omega)
  have h1 := h1 i hi rfl
  rcases sw_case (n := 3) wh (by omega) with hsw | ⟨m, hm', rfl⟩
  · rw [r_tsOut (tgt := 102) dX9_span_16 hsw rfl]
    simp only [r_ldc2 dX9_span_102 K9_239, r_lret dX9_span_105 (Nat.zero_le _) (Nat.zero_le _), List.cons_append, List.nil_append, Nat.reduceAdd, Option.toList, z0]
    have : ∀ m, m < 3 → wh ≠ nI m := fun m hm' e => by rw [e, nI_toInt (by omega)] at hsw; omega
    have h1 := h1 (this 2 (by omega))
    rw [if_neg (show wh ≠ 0 from this 0 (by omega)), if_neg (show wh ≠ 1 from this 1 (by omega))] at h1
    exact h1
  · match m, hm' with
    | 0, _ =>
      rw [r_tsIn (tgt := 44) (off := 28) dX9_span_16 (by decide) (by decide) rfl rfl]
      simp only [r_al0 dX9_span_44, r_getf dX9_span_45 F9_10, r_getf dX9_span_48 F9_210, r_il1 dX9_span_51, r_iald dX9_span_52, List.cons_append, List.nil_append, Nat.reduceAdd, Option.toList, aI_ok, g1_12, g9_0, z0, hW.r, rd_own hW.r, hW.r, rd_own hW.r, th_0, th_1, th_2, th_3, th_4, th_5, th_6, th_7, th_8, th_9, hp.r, rd_own hp.r, hp.r12, rd_own hp.r12, nI_clamp (show i < 2 ^ 31 by omega)]
      refine ⟨hin, ?_⟩
      refine r_ist1 dX9_span_53 M9_358 Y263 (Nat.le_of_ble_eq_true rfl) (Nat.le_refl _) (Nat.le_refl _) ?_
      refine c_bitCount ?_
      simp only [r_i2l dX9_span_56, r_lret dX9_span_57 (Nat.zero_le _) (Nat.zero_le _), List.cons_append, List.nil_append, Nat.reduceAdd, Option.toList, z0]
      exact h1 (by decide)
    | 1, _ =>
      rw [r_tsIn (tgt := 58) (off := 42) dX9_span_16 (by decide) (by decide) rfl rfl]
      simp only [r_al0 dX9_span_58, r_getf dX9_span_59 F9_10, r_getf dX9_span_62 F9_227, r_iconst dX9_span_65 ki1, r_isub dX9_span_66, r_al0 dX9_span_67, r_getf dX9_span_68 F9_10, r_getf dX9_span_71 F9_213, r_il1 dX9_span_74, r_iald dX9_span_75, List.cons_append, List.nil_append, Nat.reduceAdd, Option.toList, aI_ok, g1_13, g1_2, g9_0, z0, hW.r, rd_own hW.r, hW.r, rd_own hW.r, th_0, th_1, th_2, th_3, th_4, th_5, th_6, th_7, th_8, th_9, hp.r, rd_own hp.r, hp.r13, rd_own hp.r13, nI_clamp (show i < 2 ^ 31 by omega), e2]
      refine ⟨hin, ?_⟩
      refine r_ist1 dX9_span_76 M9_358 Y263 (Nat.le_of_ble_eq_true rfl) (Nat.le_refl _) (Nat.le_refl _) ?_
      refine c_bitCount ?_
      simp only [r_isub dX9_span_79, r_i2l dX9_span_80, r_lret dX9_span_81 (Nat.zero_le _) (Nat.zero_le _), List.cons_append, List.nil_append, Nat.reduceAdd, Option.toList, z0]
      exact h1 (by decide)
    | 2, _ =>
      rw [r_tsIn (tgt := 82) (off := 66) dX9_span_16 (by decide) (by decide) rfl rfl]
      simp only [r_al0 dX9_span_82, r_getf dX9_span_83 F9_53, r_al0 dX9_span_86, r_getf dX9_span_87 F9_10, List.cons_append, List.nil_append, Nat.reduceAdd, Option.toList, g9_0, g9_7, z0, hW.r, rd_own hW.r, hW.r, rd_own hW.r, th_0, th_1, th_2, th_3, th_4, th_5, th_6, th_7, th_8, th_9]
      refine r_iv2 dX9_span_90 M9_241 Y89 O89 (Nat.le_of_ble_eq_true rfl) (rcv_own hW.ta.r) (Nat.le_refl _) (Nat.le_refl _) ?_
      refine c_taly2 hW e2 l2 hc hc2 (fun hm' V' AA' R' hW' k1 k2 k3 k4 k5 k6 => ?_)
      simp only [r_al0 dX9_span_93, r_getf dX9_span_94 F9_53, r_il1 dX9_span_97, List.cons_append, List.nil_append, Nat.reduceAdd, Option.toList, g9_7, z0, hW'.r, rd_own hW'.r, hW'.r, rd_own hW'.r, th_0, th_1, th_2, th_3, th_4, th_5, th_6, th_7, th_8, th_9]
      refine r_iv2 dX9_span_98 M9_366 Y95 O95 (Nat.le_of_ble_eq_true rfl) (rcv_own hW'.ta.r) (Nat.le_refl _) (Nat.le_refl _) ?_
      refine c_meanPlace hW'.ta (by omega) ?_
      simp only [r_lret dX9_span_101 (Nat.zero_le _) (Nat.zero_le _), List.cons_append, List.nil_append, Nat.reduceAdd, Option.toList, z0]
      exact hQ i hi rfl rfl hm' V' AA' R' hW' k1 k2 k3 k4 k5 (k6.wide (by omega))
theorem c_countFitting {ml : Int32} (hW : TW hm t pa pb qa qb V AA R) (hz : SZ V AA n w h nl np nw nr)
    (hQ : Q (some (.int (cfs (fun q => fitv (AA 2 5) (lkP (V 0) (AA 0) n (AA 2 7 q) (AA 2 8 q) ml 0) nl) np))) hm hs) : CC X EV (d + 4) 144 [.ref t, .int ml] hm hs Q := by
  obtain ⟨⟨e0, l0⟩, ⟨e1, l1⟩, ⟨e2, l2⟩, ⟨e3, l3⟩, ⟨e4, l4⟩, -⟩ := id hz
  have hp := hW.pg
  have hsc := hW.sc
  refine c_of (ls2 := [.ref t, .int ml, .null, .null, .null]) Y144 (Nat.le_of_ble_eq_true rfl) rfl I144 ?_
  simp only [r_iconst dX9_countFitting_0 ki0, r_is2 dX9_countFitting_1, r_iconst dX9_countFitting_2 ki0, r_is3 dX9_countFitting_3, List.cons_append, List.nil_append, Nat.reduceAdd, Option.toList, cat_f, cat_i, cat_n, cat_r, eq_self, true_and, z0]
  suffices H : ∀ q, q ≤ np → ∀ x, E1 X EV (d + 3) 9 0 0 (some .int) false cX9_countFitting Q 4 [.ref t, .int ml, .int (cfs (fun q => fitv (AA 2 5) (lkP (V 0) (AA 0) n (AA 2 7 q) (AA 2 8 q) ml 0) nl) q), .int (nI q), x] [] 0 0 hm hs from H 0 (by omega) _
  refine up_loop np _ ?_ ?_
  · intro x
    simp only [r_il3 dX9_countFitting_4, r_al0 dX9_countFitting_5, r_getf dX9_countFitting_6 F9_22, r_getf dX9_countFitting_9 F9_321, r_ic_ge (tgt := 65) dX9_countFitting_12 rfl, r_al0 dX9_countFitting_15, r_getf dX9_countFitting_16 F9_10, r_al0 dX9_countFitting_19, r_getf dX9_countFitting_20 F9_22, r_getf dX9_countFitting_23 F9_348, r_il3 dX9_countFitting_26, r_iald dX9_countFitting_27, r_al0 dX9_countFitting_28, r_getf dX9_countFitting_29 F9_22, r_getf dX9_countFitting_32 F9_351, r_il3 dX9_countFitting_35, r_iald dX9_countFitting_36, r_il1 dX9_countFitting_37, r_iconst dX9_countFitting_38 ki0, r_il2 dX9_countFitting_65, r_iret dX9_countFitting_66 (Nat.zero_le _) (Nat.zero_le _), List.cons_append, List.nil_append, Nat.reduceAdd, Option.toList, aI_ok, g5_1, g5_7, g5_8, g9_0, g9_2, z0, hW.r, rd_own hW.r, hW.r, rd_own hW.r, th_0, th_1, th_2, th_3, th_4, th_5, th_6, th_7, th_8, th_9, hsc.r, rd_own hsc.r, hsc.r, rd_own hsc.r, e4]
    exact ⟨fun _ => hQ, fun h => absurd (Int32.le_refl _) h⟩
  · intro q hq ih x
    have hin := vp_in_nI (show q < 8 by omega) (by omega)
    simp only [r_il3 dX9_countFitting_4, r_al0 dX9_countFitting_5, r_getf dX9_countFitting_6 F9_22, r_getf dX9_countFitting_9 F9_321, r_ic_ge (tgt := 65) dX9_countFitting_12 rfl, r_al0 dX9_countFitting_15, r_getf dX9_countFitting_16 F9_10, r_al0 dX9_countFitting_19, r_getf dX9_countFitting_20 F9_22, r_getf dX9_countFitting_23 F9_348, r_il3 dX9_countFitting_26, r_iald dX9_countFitting_27, r_al0 dX9_countFitting_28, r_getf dX9_countFitting_29 F9_22, r_getf dX9_countFitting_32 F9_351, r_il3 dX9_countFitting_35, r_iald dX9_countFitting_36, r_il1 dX9_countFitting_37, r_iconst dX9_countFitting_38 ki0, r_il2 dX9_countFitting_65, r_iret dX9_countFitting_66 (Nat.zero_le _) (Nat.zero_le _), List.cons_append, List.nil_append, Nat.reduceAdd, Option.toList, aI_ok, g5_1, g5_7, g5_8, g9_0, g9_2, z0, hW.r, rd_own hW.r, hW.r, rd_own hW.r, th_0, th_1, th_2, th_3, th_4, th_5, th_6, th_7, th_8, th_9, hsc.r, rd_own hsc.r, hsc.r7, rd_own hsc.r7, hsc.r8, rd_own hsc.r8, e4]
    simp (disch := omega) only [E2, nI_1, nI_add, nI_leI, nI_ltI, nI_eq, nI_clamp]
    refine ⟨fun h => absurd h (by omega), fun _ => ⟨hin, hin, ?_⟩⟩
    refine r_iv5 dX9_countFitting_39 M9_354 Y34 O34 (Nat.le_of_ble_eq_true rfl) (rcv_own hp.r) (Nat.le_refl _) (Nat.le_refl _) ?_
    refine c_lookAt hp e0 e1 l0 l1 e2 l2 ?_
    simp only [r_is4 dX9_countFitting_42, r_il2 dX9_countFitting_44, r_al0 dX9_countFitting_45, r_getf dX9_countFitting_46 F9_22, r_il4 dX9_countFitting_49, List.cons_append, List.nil_append, Nat.reduceAdd, Option.toList, cat_f, cat_i, cat_n, cat_r, eq_self, g9_2, true_and, z0, hW.r, rd_own hW.r, hW.r, rd_own hW.r, th_0, th_1, th_2, th_3, th_4, th_5, th_6, th_7, th_8, th_9]
    refine r_iv2 dX9_countFitting_51 M9_363 Y74 O74 (Nat.le_of_ble_eq_true rfl) (rcv_own hsc.r) (Nat.le_refl _) (Nat.le_refl _) ?_
    refine c_lettersThatFit hsc e3 l3 ?_
    simp only [List.cons_append, List.nil_append, Nat.reduceAdd, Option.toList, z0]
    refine r_ist1 dX9_countFitting_54 M9_358 Y263 (Nat.le_of_ble_eq_true rfl) (Nat.le_refl _) (Nat.le_refl _) ?_
    refine c_bitCount ?_
    simp only [r_iadd dX9_countFitting_57, r_is2 dX9_countFitting_58, r_ii3 dX9_countFitting_59 kn1, r_gotoB (tgt := 4) dX9_countFitting_62 rfl, List.cons_append, List.nil_append, Nat.reduceAdd, Option.toList, cat_f, cat_i, cat_n, cat_r, eq_self, true_and, z0]
    simp (disch := omega) only [E2, nI_1, nI_add, nI_leI, nI_ltI, nI_eq, nI_clamp]
    exact ih _
theorem c_spoilt {k z : Int32} (hW : TW hm t pa pb qa qb V AA R) (hz : SZ V AA n w h nl np nw nr)
    (h0 : ¬ (0 ≤ k ∧ k < nI n) → Q (some (.int (-2))) hm hs) (h1 : (0 ≤ k ∧ k < nI n) → ¬ z = 0 → ¬ z = 1 → Q (some (.int (-3))) hm hs)
    (hQ : ∀ i, i < n → k = nI i → z = 0 ∨ z = 1 → Q (some (.int (if (z = 0 ∧ ¬ V 0 5 &&& AA 0 12 i = 0) ∨ (z = 1 ∧ ¬ V 0 4 &&& AA 0 13 i = 0) then 100000 else
      1000 + cfs (fun q => fitv (AA 2 5) (lkP (V 0) (AA 0) n (AA 2 7 q) (AA 2 8 q) (mlow (V 0 4) (AA 0 12) n) 0) nl) np - cfs (fun q => fitv (AA 2 5) (lkP (V 0) (AA 0) n (AA 2 7 q) (AA 2 8 q) (mlow (if z = 0 then V 0 4 ||| sb i else V 0 4 &&& (sb i ^^^ (-1))) (AA 0 12) n) 0) nl) np))) hm hs) : CC X EV (d + 5) 143 [.ref t, .int k, .int z] hm hs Q := by
  obtain ⟨⟨e0, l0⟩, ⟨e1, l1⟩, ⟨e2, l2⟩, ⟨e3, l3⟩, ⟨e4, l4⟩, -⟩ := id hz
  have hp := hW.pg
  refine c_of (ls2 := [.ref t, .int k, .int z, .null, .null, .null]) Y143 (Nat.le_of_ble_eq_true rfl) rfl I143 ?_
  simp only [r_al0 dX9_spoilt_0, r_getf dX9_spoilt_1 F9_10, r_il1 dX9_spoilt_4, List.cons_append, List.nil_append, Nat.reduceAdd, Option.toList, g9_0, z0, hW.r, rd_own hW.r, hW.r, rd_own hW.r, th_0, th_1, th_2, th_3, th_4, th_5, th_6, th_7, th_8, th_9]
  refine r_iv2 dX9_spoilt_5 M9_128 Y6 O6 (Nat.le_of_ble_eq_true rfl) (rcv_own hp.r) (Nat.le_refl _) (Nat.le_refl _) ?_
  refine c_has hp ?_
  rw [e2]
  simp only [r_if_ne (tgt := 14) dX9_spoilt_8 rfl, r_bipush dX9_spoilt_11 kbm2, r_iret dX9_spoilt_13 (Nat.zero_le _) (Nat.zero_le _), r_il2 dX9_spoilt_14, r_if_eqB (tgt := 26) dX9_spoilt_15 rfl, r_il2 dX9_spoilt_18, r_iconst dX9_spoilt_19 ki1, r_ic_eqB (tgt := 26) dX9_spoilt_20 rfl, r_bipush dX9_spoilt_23 kbm3, r_iret dX9_spoilt_25 (Nat.zero_le _) (Nat.zero_le _), List.cons_append, List.nil_append, Nat.reduceAdd, Option.toList, z0]
  refine ⟨fun hk => ?_, fun hk => h0 (Classical.not_not.mp hk)⟩
  have hk := Classical.not_not.mp hk
  suffices H : z = 0 ∨ z = 1 → E1 X EV (d + 4) 9 0 0 (some .int) false cX9_spoilt Q 26 [.ref t, .int k, .int z, .null, .null, .null] [] 0 0 hm hs by
    simp (disch := omega) only [E2, nI_1, nI_add, nI_leI, nI_ltI, nI_eq, nI_clamp]
    exact ⟨fun h => H (Or.inl h), fun h => ⟨fun h5 => H (Or.inr h5), fun h5 => h1 hk h h5⟩⟩
  intro hz01
  obtain ⟨i, hi, rfl⟩ := ix (by omega) hk
  have hQ := hQ i hi rfl hz01
  simp only [r_al0 dX9_spoilt_26, r_getf dX9_spoilt_27 F9_10, r_il1 dX9_spoilt_30, r_il2 dX9_spoilt_31, List.cons_append, List.nil_append, Nat.reduceAdd, Option.toList, g9_0, z0, hW.r, rd_own hW.r, hW.r, rd_own hW.r, th_0, th_1, th_2, th_3, th_4, th_5, th_6, th_7, th_8, th_9]
  refine r_iv3 dX9_spoilt_32 M9_139 Y25 O25 (Nat.le_of_ble_eq_true rfl) (rcv_own hp.r) (Nat.le_refl _) (Nat.le_refl _) ?_
  refine c_handLeavesNoWay hp (by omega) ?_
  simp only [r_if_eq (tgt := 42) dX9_spoilt_35 rfl, r_ldcw dX9_spoilt_38 K9_384, r_iret dX9_spoilt_41 (Nat.zero_le _) (Nat.zero_le _), r_iconst dX9_spoilt_42 ki1, r_il1 dX9_spoilt_43, r_ishl dX9_spoilt_44, r_is3 dX9_spoilt_45, r_il2 dX9_spoilt_46, r_if_ne (tgt := 62) dX9_spoilt_47 rfl, r_al0 dX9_spoilt_50, r_getf dX9_spoilt_51 F9_10, r_getf dX9_spoilt_54 F9_263, r_il3 dX9_spoilt_57, r_ior dX9_spoilt_58, r_goto (tgt := 73) dX9_spoilt_59 rfl, r_al0 dX9_spoilt_62, r_getf dX9_spoilt_63 F9_10, r_getf dX9_spoilt_66 F9_263, r_il3 dX9_spoilt_69, r_iconst dX9_spoilt_70 kim1, r_ixor dX9_spoilt_71, r_iand dX9_spoilt_72, r_is4 dX9_spoilt_73, r_al0 dX9_spoilt_75, r_al0 dX9_spoilt_76, r_getf dX9_spoilt_77 F9_10, r_al0 dX9_spoilt_80, r_getf dX9_spoilt_81 F9_10, r_getf dX9_spoilt_84 F9_263, List.cons_append, List.nil_append, Nat.reduceAdd, Option.toList, cat_f, cat_i, cat_n, cat_r, eq_self, g1_4, g9_0, true_and, z0, hW.r, rd_own hW.r, hW.r, rd_own hW.r, th_0, th_1, th_2, th_3, th_4, th_5, th_6, th_7, th_8, th_9, hp.r, rd_own hp.r, hp.r, rd_own hp.r]
  refine ⟨fun hk5 => ?_, fun hk5 => ?_⟩
  · rw [if_neg hk5] at hQ
    have fin : ∀ lt, (mlow (if z = 0 then V 0 4 ||| sb i else V 0 4 &&& (sb i ^^^ (-1))) (AA 0 12) n) = mlow lt (AA 0 12) n → E1 X EV (d + 4) 9 0 0 (some .int) false cX9_spoilt Q 87 [.ref t, .int (nI i), .int z, .int (sb i), .int lt, .null] [.int (V 0 4), .ref pa, .ref t] 0 0 hm hs := by
      intro lt elt
      rw [elt] at hQ
      refine r_iv2 dX9_spoilt_87 M9_266 Y26 O26 (Nat.le_of_ble_eq_true rfl) (rcv_own hp.r) (Nat.le_refl _) (Nat.le_refl _) ?_
      refine c_mustBeLower hp e2 l2 ?_
      simp only [List.cons_append, List.nil_append, Nat.reduceAdd, Option.toList, z0]
      refine r_iv2 dX9_spoilt_90 M9_385 Y144 O144 (Nat.le_of_ble_eq_true rfl) (rcv_own hW.r) (Nat.le_refl _) (Nat.le_refl _) ?_
      refine c_countFitting hW hz ?_
      simp only [r_is5 dX9_spoilt_93, r_sipush dX9_spoilt_95 ks1000, r_il5 dX9_spoilt_98, r_iadd dX9_spoilt_100, r_al0 dX9_spoilt_101, r_al0 dX9_spoilt_102, r_getf dX9_spoilt_103 F9_10, r_il4 dX9_spoilt_106, List.cons_append, List.nil_append, Nat.reduceAdd, Option.toList, cat_f, cat_i, cat_n, cat_r, eq_self, g9_0, true_and, z0, hW.r, rd_own hW.r, hW.r, rd_own hW.r, th_0, th_1, th_2, th_3, th_4, th_5, th_6, th_7, th_8, th_9]
      refine r_iv2 dX9_spoilt_108 M9_266 Y26 O26 (Nat.le_of_ble_eq_true rfl) (rcv_own hp.r) (Nat.le_refl _) (Nat.le_refl _) ?_
      refine c_mustBeLower hp e2 l2 ?_
      simp only [List.cons_append, List.nil_append, Nat.reduceAdd, Option.toList, z0]
      refine r_iv2 dX9_spoilt_111 M9_385 Y144 O144 (Nat.le_of_ble_eq_true rfl) (rcv_own hW.r) (Nat.le_refl _) (Nat.le_refl _) ?_
      refine c_countFitting hW hz ?_
      simp only [r_isub dX9_spoilt_114, r_iret dX9_spoilt_115 (Nat.zero_le _) (Nat.zero_le _), List.cons_append, List.nil_append, Nat.reduceAdd, Option.toList, z0]
      exact hQ
    refine ⟨fun h5 => fin _ (by rw [if_neg h5]; rfl), fun h5 => fin _ (by rw [if_pos (Classical.not_not.mp h5)]; rfl)⟩
  · rw [if_pos (Classical.not_not.mp hk5)] at hQ
    exact hQ
end Q5
