/-! ===== TwoHands: what is asked without a change ===== -/
theorem sw_case {n : Nat} (x : Int32) (hn : n < 2 ^ 31) : (x.toInt < 0 ∨ (n : Int) - 1 < x.toInt) ∨ ∃ m, m < n ∧ x = nI m := by
  by_cases h : x.toInt < 0 ∨ (n : Int) - 1 < x.toInt
  · exact Or.inl h
  · refine Or.inr (ix hn ⟨?_, ?_⟩)
    · rw [Int32.le_iff_toInt_le]
      have : (0 : Int32).toInt = 0 := by decide
      omega
    · rw [Int32.lt_iff_toInt_lt, nI_toInt hn]
      omega
/-- the sizes of a leaf -/
def SZ (V : Nat → Nat → Int32) (AA : Nat → Nat → Nat → Int32) (n w h nl np nw nr : Nat) : Prop := (V 0 0 = nI w ∧ w ≤ 24) ∧ (V 0 1 = nI h ∧ h ≤ 12) ∧ (V 0 2 = nI n ∧ n ≤ 12) ∧ (V 2 0 = nI nl ∧ nl ≤ 10) ∧ scW (V 2) (AA 2) np nw nr
def siR (pu : Nat → Int32) (pA : Nat → Nat → Int32) (sA : Nat → Nat → Int32) (n nl np nw nr : Nat) (S : Nat → Nat → Int32) : Prop :=
  (∀ q, q < np → S 1 q = lkP pu pA n (sA 7 q) (sA 8 q) (mlow (pu 4) (pA 12) n) 0) ∧ (∀ q, q < np → S 2 q = fitv (sA 5) (S 1 q) nl) ∧
  (∀ q, q < np → (sA 9 q = -1 → S 3 q = S 2 q) ∧ (∀ r f l, r < nr → sA 9 q = nI r → sA 12 r = nI f → sA 13 r = nI l → f ≤ q → q < f + l → f + l ≤ 8 → l ≤ 6 → S 3 q = lowv sA (S 2) r f l q nw))
theorem va_self {α : Type} (f : Nat → α) (k : Nat) : va_up f k (f k) = f := by
  funext i
  by_cases h : i = k
  · rw [h, vu_eq]
  · rw [vu_ne h]
/-- all but the picture k is the same -/
def KX (k : Nat) (V V' : Nat → Nat → Int32) (AA AA' : Nat → Nat → Nat → Int32) : Prop := ∀ j, j ≠ k → V' j = V j ∧ AA' j = AA j
section Q1
variable {X : HM} {EV : Nat → Value} {d : Nat} {hm : HM} {hs : Nat} {Q : QT} {t pa pb qa qb : Nat} {V : Nat → Nat → Int32} {AA : Nat → Nat → Nat → Int32} {R : Nat → Int64} {B n w h nl np nw nr : Nat}
theorem c_look (hW : TW hm t pa pb qa qb V AA R) (hz : SZ V AA n w h nl np nw nr) (hc : V 8 0 = 0 → siR (V 0) (AA 0) (AA 2) n nl np nw nr (AA 8))
    (hQ : ∀ hm' V' AA', TW hm' t pa pb qa qb V' AA' R → KX 8 V V' AA AA' → V' 8 0 = 0 → siR (V 0) (AA 0) (AA 2) n nl np nw nr (AA' 8) → sm (t + 57) (t + 61) hm hm' → Q none hm' hs) : CC X EV (d + 4) 82 [.ref (t + 57), .ref pa, .ref qa] hm hs Q := by
  obtain ⟨⟨e0, l0⟩, ⟨e1, l1⟩, ⟨e2, l2⟩, ⟨e3, l3⟩, hS⟩ := hz
  have had := hW.ad
  unfold adO at had
  refine c_siRefresh hW.si hW.pg hW.sc (by omega) (by omega) e0 e1 l0 l1 e2 l2 e3 l3 hS (fun h0 => ?_) (fun h0 hm' A' hP h1 h2 h3 h4 => ?_)
  · exact hQ hm V AA hW (fun j _ => ⟨rfl, rfl⟩) h0 (hc h0) sm.rf
  · refine hQ hm' _ _ (hW.s_si hP h4) (fun j hj => ⟨vu_ne hj, vu_ne hj⟩) ?_ ?_ h4
    · rw [vu_eq, pk_us]
    · rw [vu_eq]; exact ⟨h1, h2, h3⟩
theorem c_isRow {k : Int32} (hQ : Q (some (.int (if 0 ≤ k ∧ k < 4 then 1 else 0))) hm hs) : CC X EV (d + 1) 154 [.int k] hm hs Q := by
  refine c_of (ls2 := [.int k]) Y154 (Nat.le_of_ble_eq_true rfl) rfl I154 ?_
  simp only [r_il0 dX9_isRow_0, r_if_lt (tgt := 13) dX9_isRow_1 rfl, r_il0 dX9_isRow_4, r_iconst dX9_isRow_5 ki4, r_ic_ge (tgt := 13) dX9_isRow_6 rfl, r_iconst dX9_isRow_9 ki1, r_goto (tgt := 14) dX9_isRow_10 rfl, r_iconst dX9_isRow_13 ki0, r_zret0 dX9_isRow_14 (Nat.zero_le _) (Nat.zero_le _), r_zret1 dX9_isRow_14 (Nat.zero_le _) (Nat.zero_le _), r_zretc dX9_isRow_14 (Nat.zero_le _) (Nat.zero_le _), List.cons_append, List.nil_append, Nat.reduceAdd, Option.toList, z0]
  have hQ := zq hQ
  grind
theorem c_fault {k : Int32} (hW : TW hm t pa pb qa qb V AA R) (hQ : Q (some (.int (if k = 0 then V 13 10 else if k = 1 then V 13 11 else -1))) hm hs) : CC X EV (d + 1) 103 [.ref t, .int k] hm hs Q := by
  refine c_of (ls2 := [.ref t, .int k]) Y103 (Nat.le_of_ble_eq_true rfl) rfl I103 ?_
  simp only [r_il1 dX9_fault_0, r_if_ne (tgt := 9) dX9_fault_1 rfl, r_al0 dX9_fault_4, r_getf dX9_fault_5 F9_71, r_iret dX9_fault_8 (Nat.zero_le _) (Nat.zero_le _), r_il1 dX9_fault_9, r_iconst dX9_fault_10 ki1, r_ic_ne (tgt := 21) dX9_fault_11 rfl, r_al0 dX9_fault_14, r_getf dX9_fault_15 F9_75, r_goto (tgt := 22) dX9_fault_18 rfl, r_iconst dX9_fault_21 kim1, r_iret dX9_fault_22 (Nat.zero_le _) (Nat.zero_le _), List.cons_append, List.nil_append, Nat.reduceAdd, Option.toList, g9_10, g9_11, z0, hW.r, rd_own hW.r, hW.r, rd_own hW.r, th_0, th_1, th_2, th_3, th_4, th_5, th_6, th_7, th_8, th_9]
  grind
theorem c_stroke {k wh : Int32} (hW : TW hm t pa pb qa qb V AA R) (hz : SZ V AA n w h nl np nw nr)
    (h0 : ¬ (0 ≤ k ∧ k < nI n) → Q (some (.int (-2))) hm hs)
    (h1 : ∀ i, i < n → k = nI i → Q (some (.int (if wh = 0 then AA 0 6 i else if wh = 1 then AA 0 7 i else if wh = 2 then AA 0 8 i else if wh = 3 then AA 0 9 i else if wh = 4 then (if bt (V 0 4) i = true then 0 else if bt (V 0 5) i = true then 1 else -1) + 1
      else if wh = 5 then (if ¬ V 0 4 &&& (AA 0 13 i ||| sb i) = 0 then 0 else if ¬ V 0 5 &&& (AA 0 12 i ||| sb i) = 0 then 1 else 2) else if wh = 6 then nI (layv (AA 0 12) n i) else if wh = 7 then AA 0 10 i else if wh = 8 then AA 0 12 i else if wh = 9 then AA 0 13 i else -2))) hm hs) : CC X EV (d + 3) 112 [.ref t, .int k, .int wh] hm hs Q := by
  obtain ⟨⟨e0, l0⟩, ⟨e1, l1⟩, ⟨e2, l2⟩, ⟨e3, l3⟩, hS⟩ := hz
  have hp := hW.pg
  refine c_of (ls2 := [.ref t, .int k, .int wh]) Y112 (Nat.le_of_ble_eq_true rfl) rfl I112 ?_
  simp only [r_al0 dX9_stroke_0, r_getf dX9_stroke_1 F9_10, r_il1 dX9_stroke_4, List.cons_append, List.nil_append, Nat.reduceAdd, Option.toList, g9_0, z0, hW.r, rd_own hW.r, hW.r, rd_own hW.r, th_0, th_1, th_2, th_3, th_4, th_5, th_6, th_7, th_8, th_9]
  refine r_iv2 dX9_stroke_5 M9_128 Y6 O6 (Nat.le_of_ble_eq_true rfl) (rcv_own hp.r) (Nat.le_refl _) (Nat.le_refl _) ?_
  refine c_has hp ?_
  rw [e2]
  simp only [r_if_ne (tgt := 14) dX9_stroke_8 rfl, r_bipush dX9_stroke_11 kbm2, r_iret dX9_stroke_13 (Nat.zero_le _) (Nat.zero_le _), r_il2 dX9_stroke_14, List.cons_append, List.nil_append, Nat.reduceAdd, Option.toList, z0]
  refine ⟨fun hk => ?_, fun hk => h0 (Classical.not_not.mp hk)⟩
  obtain ⟨i, hi, rfl⟩ := ix (by omega) (Classical.not_not.mp hk)
  have h1 := h1 i hi rfl
  have hin := vp_in_nI (show i < 12 by omega) (by omega)
  rcases sw_case (n := 10) wh (by omega) with hsw | ⟨m, hm', rfl⟩
  · rw [r_tsOut (tgt := 167) dX9_stroke_15 hsw rfl]
    simp only [r_bipush dX9_stroke_167 kbm2, r_iret dX9_stroke_169 (Nat.zero_le _) (Nat.zero_le _), List.cons_append, List.nil_append, Nat.reduceAdd, Option.toList, z0]
    have : ∀ m, m < 10 → wh ≠ nI m := fun m hm' e => by rw [e, nI_toInt (by omega)] at hsw; omega
    rw [if_neg (show wh ≠ 0 from this 0 (by omega)), if_neg (show wh ≠ 1 from this 1 (by omega)), if_neg (show wh ≠ 2 from this 2 (by omega)), if_neg (show wh ≠ 3 from this 3 (by omega)), if_neg (show wh ≠ 4 from this 4 (by omega)), if_neg (show wh ≠ 5 from this 5 (by omega)), if_neg (show wh ≠ 6 from this 6 (by omega)), if_neg (show wh ≠ 7 from this 7 (by omega)), if_neg (show wh ≠ 8 from this 8 (by omega)), if_neg (show wh ≠ 9 from this 9 (by omega))] at h1
    exact h1
  · match m, hm' with
    | 0, _ =>
      rw [r_tsIn (tgt := 68) (off := 53) dX9_stroke_15 (by decide) (by decide) rfl rfl]
      simp only [r_al0 dX9_stroke_68, r_getf dX9_stroke_69 F9_10, r_getf dX9_stroke_72 F9_189, r_il1 dX9_stroke_75, r_iald dX9_stroke_76, r_iret dX9_stroke_77 (Nat.zero_le _) (Nat.zero_le _), List.cons_append, List.nil_append, Nat.reduceAdd, Option.toList, aI_ok, g1_6, g9_0, z0, hW.r, rd_own hW.r, hW.r, rd_own hW.r, th_0, th_1, th_2, th_3, th_4, th_5, th_6, th_7, th_8, th_9, hp.r, rd_own hp.r, hp.r6, rd_own hp.r6, nI_clamp (show i < 2 ^ 31 by omega)]
      exact ⟨hin, h1⟩
    | 1, _ =>
      rw [r_tsIn (tgt := 78) (off := 63) dX9_stroke_15 (by decide) (by decide) rfl rfl]
      simp only [r_al0 dX9_stroke_78, r_getf dX9_stroke_79 F9_10, r_getf dX9_stroke_82 F9_192, r_il1 dX9_stroke_85, r_iald dX9_stroke_86, r_iret dX9_stroke_87 (Nat.zero_le _) (Nat.zero_le _), List.cons_append, List.nil_append, Nat.reduceAdd, Option.toList, aI_ok, g1_7, g9_0, z0, hW.r, rd_own hW.r, hW.r, rd_own hW.r, th_0, th_1, th_2, th_3, th_4, th_5, th_6, th_7, th_8, th_9, hp.r, rd_own hp.r, hp.r7, rd_own hp.r7, nI_clamp (show i < 2 ^ 31 by omega)]
      exact ⟨hin, h1⟩
    | 2, _ =>
      rw [r_tsIn (tgt := 88) (off := 73) dX9_stroke_15 (by decide) (by decide) rfl rfl]
      simp only [r_al0 dX9_stroke_88, r_getf dX9_stroke_89 F9_10, r_getf dX9_stroke_92 F9_195, r_il1 dX9_stroke_95, r_iald dX9_stroke_96, r_iret dX9_stroke_97 (Nat.zero_le _) (Nat.zero_le _), List.cons_append, List.nil_append, Nat.reduceAdd, Option.toList, aI_ok, g1_8, g9_0, z0, hW.r, rd_own hW.r, hW.r, rd_own hW.r, th_0, th_1, th_2, th_3, th_4, th_5, th_6, th_7, th_8, th_9, hp.r, rd_own hp.r, hp.r8, rd_own hp.r8, nI_clamp (show i < 2 ^ 31 by omega)]
      exact ⟨hin, h1⟩
    | 3, _ =>
      rw [r_tsIn (tgt := 98) (off := 83) dX9_stroke_15 (by decide) (by decide) rfl rfl]
      simp only [r_al0 dX9_stroke_98, r_getf dX9_stroke_99 F9_10, r_getf dX9_stroke_102 F9_198, r_il1 dX9_stroke_105, r_iald dX9_stroke_106, r_iret dX9_stroke_107 (Nat.zero_le _) (Nat.zero_le _), List.cons_append, List.nil_append, Nat.reduceAdd, Option.toList, aI_ok, g1_9, g9_0, z0, hW.r, rd_own hW.r, hW.r, rd_own hW.r, th_0, th_1, th_2, th_3, th_4, th_5, th_6, th_7, th_8, th_9, hp.r, rd_own hp.r, hp.r9, rd_own hp.r9, nI_clamp (show i < 2 ^ 31 by omega)]
      exact ⟨hin, h1⟩
    | 4, _ =>
      rw [r_tsIn (tgt := 108) (off := 93) dX9_stroke_15 (by decide) (by decide) rfl rfl]
      simp only [r_al0 dX9_stroke_108, r_getf dX9_stroke_109 F9_10, r_il1 dX9_stroke_112, List.cons_append, List.nil_append, Nat.reduceAdd, Option.toList, g9_0, z0, hW.r, rd_own hW.r, hW.r, rd_own hW.r, th_0, th_1, th_2, th_3, th_4, th_5, th_6, th_7, th_8, th_9]
      refine r_iv2 dX9_stroke_113 M9_142 Y23 O23 (Nat.le_of_ble_eq_true rfl) (rcv_own hp.r) (Nat.le_refl _) (Nat.le_refl _) ?_
      refine c_toldHand hp (by omega) ?_
      simp only [r_iconst dX9_stroke_116 ki1, r_iadd dX9_stroke_117, r_iret dX9_stroke_118 (Nat.zero_le _) (Nat.zero_le _), List.cons_append, List.nil_append, Nat.reduceAdd, Option.toList, z0]
      exact h1
    | 5, _ =>
      rw [r_tsIn (tgt := 119) (off := 104) dX9_stroke_15 (by decide) (by decide) rfl rfl]
      simp only [r_al0 dX9_stroke_119, r_getf dX9_stroke_120 F9_10, r_il1 dX9_stroke_123, List.cons_append, List.nil_append, Nat.reduceAdd, Option.toList, g9_0, z0, hW.r, rd_own hW.r, hW.r, rd_own hW.r, th_0, th_1, th_2, th_3, th_4, th_5, th_6, th_7, th_8, th_9]
      refine r_iv2 dX9_stroke_124 M9_201 Y27 O27 (Nat.le_of_ble_eq_true rfl) (rcv_own hp.r) (Nat.le_refl _) (Nat.le_refl _) ?_
      refine c_mustOf hp (by omega) ?_
      simp only [r_iret dX9_stroke_127 (Nat.zero_le _) (Nat.zero_le _), List.cons_append, List.nil_append, Nat.reduceAdd, Option.toList, z0]
      exact h1
    | 6, _ =>
      rw [r_tsIn (tgt := 128) (off := 113) dX9_stroke_15 (by decide) (by decide) rfl rfl]
      simp only [r_al0 dX9_stroke_128, r_getf dX9_stroke_129 F9_10, r_il1 dX9_stroke_132, List.cons_append, List.nil_append, Nat.reduceAdd, Option.toList, g9_0, z0, hW.r, rd_own hW.r, hW.r, rd_own hW.r, th_0, th_1, th_2, th_3, th_4, th_5, th_6, th_7, th_8, th_9]
      refine r_iv2 dX9_stroke_133 M9_204 Y30 O30 (Nat.le_of_ble_eq_true rfl) (rcv_own hp.r) (Nat.le_refl _) (Nat.le_refl _) ?_
      refine c_layerOf hp e2 l2 (by omega) ?_
      simp only [r_iret dX9_stroke_136 (Nat.zero_le _) (Nat.zero_le _), List.cons_append, List.nil_append, Nat.reduceAdd, Option.toList, z0]
      exact h1
    | 7, _ =>
      rw [r_tsIn (tgt := 137) (off := 122) dX9_stroke_15 (by decide) (by decide) rfl rfl]
      simp only [r_al0 dX9_stroke_137, r_getf dX9_stroke_138 F9_10, r_getf dX9_stroke_141 F9_207, r_il1 dX9_stroke_144, r_iald dX9_stroke_145, r_iret dX9_stroke_146 (Nat.zero_le _) (Nat.zero_le _), List.cons_append, List.nil_append, Nat.reduceAdd, Option.toList, aI_ok, g1_10, g9_0, z0, hW.r, rd_own hW.r, hW.r, rd_own hW.r, th_0, th_1, th_2, th_3, th_4, th_5, th_6, th_7, th_8, th_9, hp.r, rd_own hp.r, hp.r10, rd_own hp.r10, nI_clamp (show i < 2 ^ 31 by omega)]
      exact ⟨hin, h1⟩
    | 8, _ =>
      rw [r_tsIn (tgt := 147) (off := 132) dX9_stroke_15 (by decide) (by decide) rfl rfl]
      simp only [r_al0 dX9_stroke_147, r_getf dX9_stroke_148 F9_10, r_getf dX9_stroke_151 F9_210, r_il1 dX9_stroke_154, r_iald dX9_stroke_155, r_iret dX9_stroke_156 (Nat.zero_le _) (Nat.zero_le _), List.cons_append, List.nil_append, Nat.reduceAdd, Option.toList, aI_ok, g1_12, g9_0, z0, hW.r, rd_own hW.r, hW.r, rd_own hW.r, th_0, th_1, th_2, th_3, th_4, th_5, th_6, th_7, th_8, th_9, hp.r, rd_own hp.r, hp.r12, rd_own hp.r12, nI_clamp (show i < 2 ^ 31 by omega)]
      exact ⟨hin, h1⟩
    | 9, _ =>
      rw [r_tsIn (tgt := 157) (off := 142) dX9_stroke_15 (by decide) (by decide) rfl rfl]
      simp only [r_al0 dX9_stroke_157, r_getf dX9_stroke_158 F9_10, r_getf dX9_stroke_161 F9_213, r_il1 dX9_stroke_164, r_iald dX9_stroke_165, r_iret dX9_stroke_166 (Nat.zero_le _) (Nat.zero_le _), List.cons_append, List.nil_append, Nat.reduceAdd, Option.toList, aI_ok, g1_13, g9_0, z0, hW.r, rd_own hW.r, hW.r, rd_own hW.r, th_0, th_1, th_2, th_3, th_4, th_5, th_6, th_7, th_8, th_9, hp.r, rd_own hp.r, hp.r13, rd_own hp.r13, nI_clamp (show i < 2 ^ 31 by omega)]
      exact ⟨hin, h1⟩
end Q1
