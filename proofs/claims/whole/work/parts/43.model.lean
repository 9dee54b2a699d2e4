/-! ===== the model: small questions ===== -/
theorem i64le {a b : Int32} : (a.toInt64 ≤ b.toInt64) = (a ≤ b) := by rw [Int64.le_iff_toInt_le, Int32.toInt_toInt64, Int32.toInt_toInt64, Int32.le_iff_toInt_le]
theorem lg_lt0 {a b : Int64} : (lg_cmp a b < 0) = ¬ b ≤ a := by
  rw [lg_cmp_lt]; apply propext; grind
theorem lg_gt0 {a b : Int64} : (0 < lg_cmp a b) = ¬ a ≤ b := by
  rw [lg_cmp_gt]; apply propext; grind
theorem vs0 : vp_in 0 217 = True := eq_true (vp_in_nI (show 0 < 217 by omega) (by omega))
theorem ck0 : Int32.toNatClampNeg 0 = 0 := rfl
theorem vs1 : vp_in 1 217 = True := eq_true (vp_in_nI (show 1 < 217 by omega) (by omega))
theorem ck1 : Int32.toNatClampNeg 1 = 1 := rfl
theorem vs2 : vp_in 2 217 = True := eq_true (vp_in_nI (show 2 < 217 by omega) (by omega))
theorem ck2 : Int32.toNatClampNeg 2 = 2 := rfl
theorem vs3 : vp_in 3 217 = True := eq_true (vp_in_nI (show 3 < 217 by omega) (by omega))
theorem ck3 : Int32.toNatClampNeg 3 = 3 := rfl
theorem vs4 : vp_in 4 217 = True := eq_true (vp_in_nI (show 4 < 217 by omega) (by omega))
theorem ck4 : Int32.toNatClampNeg 4 = 4 := rfl
theorem vs5 : vp_in 5 217 = True := eq_true (vp_in_nI (show 5 < 217 by omega) (by omega))
theorem ck5 : Int32.toNatClampNeg 5 = 5 := rfl
theorem vs6 : vp_in 6 217 = True := eq_true (vp_in_nI (show 6 < 217 by omega) (by omega))
theorem ck6 : Int32.toNatClampNeg 6 = 6 := rfl
theorem ltp {k : Int32} {n : Nat} (hn : n ≤ 1000) : (k ≤ nI n - 1) = (k < nI n) := by
  have e : (nI n - 1).toInt = (n : Int) - 1 := by
    rcases Nat.eq_zero_or_pos n with h | h
    · rw [h]; decide
    · rw [show nI n - 1 = nI (n - 1) by rw [show (1 : Int32) = nI 1 from rfl, nI_sub h], nI_toInt (by omega)]; omega
  rw [Int32.le_iff_toInt_le, Int32.lt_iff_toInt_lt, e, nI_toInt (by omega)]
  apply propext
  omega
theorem l0_ : (0 : Int64) = (0 : Int32).toInt64 := rfl
section M1
variable {X : HM} {EV : Nat → Value} {d : Nat} {hm : HM} {hs : Nat} {Q : QT} {m n : Nat} {u : Nat → Int32} {A : Nat → Nat → Int32} {R : Nat → Int64}
theorem m_in {a b c : Int32} (hQ : Q (some (.int (if b ≤ a ∧ a ≤ c then 1 else 0))) hm hs) : CC X EV (d + 1) 155 [.long a.toInt64, .long b.toInt64, .long c.toInt64] hm hs Q := by
  have hQ := zq hQ
  refine c_of (ls2 := [.long a.toInt64, .null, .long b.toInt64, .null, .long c.toInt64, .null]) Y155 (Nat.le_of_ble_eq_true rfl) rfl I155 ?_
  simp only [r_ll0 dX10_isIn_0, r_ll2 dX10_isIn_1, r_lcmp dX10_isIn_2, r_if_lt (tgt := 17) dX10_isIn_3 rfl, r_ll0 dX10_isIn_6, r_ll4 dX10_isIn_7, r_lcmp dX10_isIn_9, r_if_gt (tgt := 17) dX10_isIn_10 rfl, r_iconst dX10_isIn_13 ki1, r_goto (tgt := 18) dX10_isIn_14 rfl, r_iconst dX10_isIn_17 ki0, r_zret0 dX10_isIn_18 (Nat.zero_le _) (Nat.zero_le _), r_zret1 dX10_isIn_18 (Nat.zero_le _) (Nat.zero_le _), r_zretc dX10_isIn_18 (Nat.zero_le _) (Nat.zero_le _), List.cons_append, List.nil_append, Nat.reduceAdd, Option.toList, z0, lg_lt0, lg_gt0, i64le]
  grind
theorem m_has {x : Int32} {k : Nat} (hk : k < 32) (hQ : Q (some (.int (if bt x k = true then 1 else 0))) hm hs) : CC X EV (d + 1) 156 [.int x, .int (nI k)] hm hs Q := by
  have hQ := zq hQ
  refine c_of (ls2 := [.int x, .int (nI k)]) Y156 (Nat.le_of_ble_eq_true rfl) rfl I156 ?_
  simp only [r_il0 dX10_has_0, r_il1 dX10_has_1, r_ishr dX10_has_2, r_iconst dX10_has_3 ki1, r_iand dX10_has_4, r_iconst dX10_has_5 ki1, r_ic_ne (tgt := 13) dX10_has_6 rfl, r_iconst dX10_has_9 ki1, r_goto (tgt := 14) dX10_has_10 rfl, r_iconst dX10_has_13 ki0, r_zret0 dX10_has_14 (Nat.zero_le _) (Nat.zero_le _), r_zret1 dX10_has_14 (Nat.zero_le _) (Nat.zero_le _), r_zretc dX10_has_14 (Nat.zero_le _) (Nat.zero_le _), List.cons_append, List.nil_append, Nat.reduceAdd, Option.toList, z0, tst1 hk]
  grind
theorem m_stepX {c : Int32} (hQ : Q (some (.int (mstX c))) hm hs) : CC X EV (d + 1) 170 [.int c] hm hs Q := by
  unfold mstX at hQ
  refine c_of (ls2 := [.int c]) Y170 (Nat.le_of_ble_eq_true rfl) rfl I170 ?_
  simp only [r_il0 dX10_stepX_0, r_iconst dX10_stepX_1 ki1, r_ic_ne (tgt := 9) dX10_stepX_2 rfl, r_iconst dX10_stepX_5 ki0, r_goto (tgt := 19) dX10_stepX_6 rfl, r_il0 dX10_stepX_9, r_iconst dX10_stepX_10 ki3, r_ic_ne (tgt := 18) dX10_stepX_11 rfl, r_iconst dX10_stepX_14 kim1, r_goto (tgt := 19) dX10_stepX_15 rfl, r_iconst dX10_stepX_18 ki1, r_iret dX10_stepX_19 (Nat.zero_le _) (Nat.zero_le _), List.cons_append, List.nil_append, Nat.reduceAdd, Option.toList, z0]
  grind
theorem m_stepY {c : Int32} (hQ : Q (some (.int (mstY c))) hm hs) : CC X EV (d + 1) 171 [.int c] hm hs Q := by
  unfold mstY at hQ
  refine c_of (ls2 := [.int c]) Y171 (Nat.le_of_ble_eq_true rfl) rfl I171 ?_
  simp only [r_il0 dX10_stepY_0, r_if_ne (tgt := 8) dX10_stepY_1 rfl, r_iconst dX10_stepY_4 ki0, r_goto (tgt := 9) dX10_stepY_5 rfl, r_iconst dX10_stepY_8 ki1, r_iret dX10_stepY_9 (Nat.zero_le _) (Nat.zero_le _), List.cons_append, List.nil_append, Nat.reduceAdd, Option.toList, z0]
  grind
theorem m_isStroke {k : Int32} (hM : MO hm m u A R) (hn : A 0 2 = nI n) (hn12 : n ≤ 12) (hQ : Q (some (.int (if 0 ≤ k ∧ k < nI n then 1 else 0))) hm hs) : CC X EV (d + 2) 182 [.ref m, .int k] hm hs Q := by
  have hQ := zq hQ
  refine c_of (ls2 := [.ref m, .int k]) Y182 (Nat.le_of_ble_eq_true rfl) rfl I182 ?_
  simp only [r_il1 dX10_isStroke_0, r_i2l dX10_isStroke_1, r_lconst dX10_isStroke_2 kl0, r_al0 dX10_isStroke_3, r_getf dX10_isStroke_4 F10_13, r_iconst dX10_isStroke_7 ki2, r_iald dX10_isStroke_8, r_iconst dX10_isStroke_9 ki1, r_isub dX10_isStroke_10, r_i2l dX10_isStroke_11, List.cons_append, List.nil_append, Nat.reduceAdd, Option.toList, aI_ok, g10_0, z0, hM.r, rd_own hM.r, hM.r0, rd_own hM.r0, vs2, ck2, hn, true_and]
  refine r_ist3 dX10_isStroke_12 M10_83 Y155 (Nat.le_of_ble_eq_true rfl) (Nat.le_refl _) (Nat.le_refl _) ?_
  rw [l0_]
  refine m_in ?_
  simp only [ltp (show n ≤ 1000 by omega)]
  simp only [r_zret0 dX10_isStroke_15 (Nat.zero_le _) (Nat.zero_le _), r_zret1 dX10_isStroke_15 (Nat.zero_le _) (Nat.zero_le _), r_zretc dX10_isStroke_15 (Nat.zero_le _) (Nat.zero_le _), List.cons_append, List.nil_append, Nat.reduceAdd, Option.toList, z0]
  grind
theorem m_isLetterAt {k : Int32} (hM : MO hm m u A R) (hn : A 0 3 = nI n) (hn12 : n ≤ 12) (hQ : Q (some (.int (if 0 ≤ k ∧ k < nI n then 1 else 0))) hm hs) : CC X EV (d + 2) 231 [.ref m, .int k] hm hs Q := by
  have hQ := zq hQ
  refine c_of (ls2 := [.ref m, .int k]) Y231 (Nat.le_of_ble_eq_true rfl) rfl I231 ?_
  simp only [r_il1 dX10_isLetterAt_0, r_i2l dX10_isLetterAt_1, r_lconst dX10_isLetterAt_2 kl0, r_al0 dX10_isLetterAt_3, r_getf dX10_isLetterAt_4 F10_13, r_iconst dX10_isLetterAt_7 ki3, r_iald dX10_isLetterAt_8, r_iconst dX10_isLetterAt_9 ki1, r_isub dX10_isLetterAt_10, r_i2l dX10_isLetterAt_11, List.cons_append, List.nil_append, Nat.reduceAdd, Option.toList, aI_ok, g10_0, z0, hM.r, rd_own hM.r, hM.r0, rd_own hM.r0, vs3, ck3, hn, true_and]
  refine r_ist3 dX10_isLetterAt_12 M10_83 Y155 (Nat.le_of_ble_eq_true rfl) (Nat.le_refl _) (Nat.le_refl _) ?_
  rw [l0_]
  refine m_in ?_
  simp only [ltp (show n ≤ 1000 by omega)]
  simp only [r_zret0 dX10_isLetterAt_15 (Nat.zero_le _) (Nat.zero_le _), r_zret1 dX10_isLetterAt_15 (Nat.zero_le _) (Nat.zero_le _), r_zretc dX10_isLetterAt_15 (Nat.zero_le _) (Nat.zero_le _), List.cons_append, List.nil_append, Nat.reduceAdd, Option.toList, z0]
  grind
theorem m_isPlace {k : Int32} (hM : MO hm m u A R) (hn : A 0 4 = nI n) (hn12 : n ≤ 12) (hQ : Q (some (.int (if 0 ≤ k ∧ k < nI n then 1 else 0))) hm hs) : CC X EV (d + 2) 221 [.ref m, .int k] hm hs Q := by
  have hQ := zq hQ
  refine c_of (ls2 := [.ref m, .int k]) Y221 (Nat.le_of_ble_eq_true rfl) rfl I221 ?_
  simp only [r_il1 dX10_isPlace_0, r_i2l dX10_isPlace_1, r_lconst dX10_isPlace_2 kl0, r_al0 dX10_isPlace_3, r_getf dX10_isPlace_4 F10_13, r_iconst dX10_isPlace_7 ki4, r_iald dX10_isPlace_8, r_iconst dX10_isPlace_9 ki1, r_isub dX10_isPlace_10, r_i2l dX10_isPlace_11, List.cons_append, List.nil_append, Nat.reduceAdd, Option.toList, aI_ok, g10_0, z0, hM.r, rd_own hM.r, hM.r0, rd_own hM.r0, vs4, ck4, hn, true_and]
  refine r_ist3 dX10_isPlace_12 M10_83 Y155 (Nat.le_of_ble_eq_true rfl) (Nat.le_refl _) (Nat.le_refl _) ?_
  rw [l0_]
  refine m_in ?_
  simp only [ltp (show n ≤ 1000 by omega)]
  simp only [r_zret0 dX10_isPlace_15 (Nat.zero_le _) (Nat.zero_le _), r_zret1 dX10_isPlace_15 (Nat.zero_le _) (Nat.zero_le _), r_zretc dX10_isPlace_15 (Nat.zero_le _) (Nat.zero_le _), List.cons_append, List.nil_append, Nat.reduceAdd, Option.toList, z0]
  grind
theorem m_isRun {k : Int32} (hM : MO hm m u A R) (hn : A 0 6 = nI n) (hn12 : n ≤ 12) (hQ : Q (some (.int (if 0 ≤ k ∧ k < nI n then 1 else 0))) hm hs) : CC X EV (d + 2) 235 [.ref m, .int k] hm hs Q := by
  have hQ := zq hQ
  refine c_of (ls2 := [.ref m, .int k]) Y235 (Nat.le_of_ble_eq_true rfl) rfl I235 ?_
  simp only [r_il1 dX10_isRun_0, r_i2l dX10_isRun_1, r_lconst dX10_isRun_2 kl0, r_al0 dX10_isRun_3, r_getf dX10_isRun_4 F10_13, r_bipush dX10_isRun_7 kb6, r_iald dX10_isRun_9, r_iconst dX10_isRun_10 ki1, r_isub dX10_isRun_11, r_i2l dX10_isRun_12, List.cons_append, List.nil_append, Nat.reduceAdd, Option.toList, aI_ok, g10_0, z0, hM.r, rd_own hM.r, hM.r0, rd_own hM.r0, vs6, ck6, hn, true_and]
  refine r_ist3 dX10_isRun_13 M10_83 Y155 (Nat.le_of_ble_eq_true rfl) (Nat.le_refl _) (Nat.le_refl _) ?_
  rw [l0_]
  refine m_in ?_
  simp only [ltp (show n ≤ 1000 by omega)]
  simp only [r_zret0 dX10_isRun_16 (Nat.zero_le _) (Nat.zero_le _), r_zret1 dX10_isRun_16 (Nat.zero_le _) (Nat.zero_le _), r_zretc dX10_isRun_16 (Nat.zero_le _) (Nat.zero_le _), List.cons_append, List.nil_append, Nat.reduceAdd, Option.toList, z0]
  grind
theorem m_isRowAt {k : Int32} (hQ : Q (some (.int (if 0 ≤ k ∧ k < 4 then 1 else 0))) hm hs) : CC X EV (d + 2) 253 [.int k] hm hs Q := by
  have hQ := zq hQ
  refine c_of (ls2 := [.int k]) Y253 (Nat.le_of_ble_eq_true rfl) rfl I253 ?_
  simp only [r_il0 dX10_isRowAt_0, r_i2l dX10_isRowAt_1, r_lconst dX10_isRowAt_2 kl0, r_ldc2 dX10_isRowAt_3 K10_326, List.cons_append, List.nil_append, Nat.reduceAdd, Option.toList, z0]
  refine r_ist3 dX10_isRowAt_6 M10_83 Y155 (Nat.le_of_ble_eq_true rfl) (Nat.le_refl _) (Nat.le_refl _) ?_
  rw [l0_, show (3 : Int64) = (3 : Int32).toInt64 from rfl]
  refine m_in ?_
  simp only [r_zret0 dX10_isRowAt_9 (Nat.zero_le _) (Nat.zero_le _), r_zret1 dX10_isRowAt_9 (Nat.zero_le _) (Nat.zero_le _), r_zretc dX10_isRowAt_9 (Nat.zero_le _) (Nat.zero_le _), List.cons_append, List.nil_append, Nat.reduceAdd, Option.toList, z0]
  grind
def mX (S : Nat → Int32) (k : Nat) (i : Int32) : Int32 := S (7 + 4 * k) + i * mstX (S (7 + 4 * k + 2))
def mY (S : Nat → Int32) (k : Nat) (i : Int32) : Int32 := S (7 + 4 * k + 1) + i * mstY (S (7 + 4 * k + 2))
theorem s7 {k : Nat} : (7 : Int32) + 4 * nI k = nI (7 + 4 * k) := by rw [show (4 : Int32) = nI 4 from rfl, pk_mul, show (7 : Int32) = nI 7 from rfl, nI_add]
theorem s7_2 {k : Nat} : nI k + 2 = nI (k + 2) := by rw [show (2 : Int32) = nI 2 from rfl, nI_add]
theorem s7_3 {k : Nat} : nI k + 3 = nI (k + 3) := by rw [show (3 : Int32) = nI 3 from rfl, nI_add]
theorem m_xOf {k : Nat} {i : Int32} (hM : MO hm m u A R) (hk : k < 12) (hQ : Q (some (.int (mX (A 0) k i))) hm hs) : CC X EV (d + 2) 183 [.ref m, .int (nI k), .int i] hm hs Q := by
  refine c_of (ls2 := [.ref m, .int (nI k), .int i]) Y183 (Nat.le_of_ble_eq_true rfl) rfl I183 ?_
  simp only [r_al0 dX10_xOf_0, r_getf dX10_xOf_1 F10_13, r_bipush dX10_xOf_4 kb7, r_iconst dX10_xOf_6 ki4, r_il1 dX10_xOf_7, r_imul dX10_xOf_8, r_iadd dX10_xOf_9, r_iald dX10_xOf_10, r_il2 dX10_xOf_11, r_al0 dX10_xOf_12, r_getf dX10_xOf_13 F10_13, r_bipush dX10_xOf_16 kb7, r_iconst dX10_xOf_18 ki4, r_il1 dX10_xOf_19, r_imul dX10_xOf_20, r_iadd dX10_xOf_21, r_iconst dX10_xOf_22 ki2, r_iadd dX10_xOf_23, r_iald dX10_xOf_24, List.cons_append, List.nil_append, Nat.reduceAdd, Option.toList, aI_ok, g10_0, z0, hM.r, rd_own hM.r, hM.r0, rd_own hM.r0, s7, s7_2, nI_clamp (show 7 + 4 * k < 2 ^ 31 by omega), nI_clamp (show 7 + 4 * k + 2 < 2 ^ 31 by omega)]
  refine ⟨vp_in_nI (by omega) (by omega), vp_in_nI (by omega) (by omega), ?_⟩
  refine r_ist1 dX10_xOf_25 M10_158 Y170 (Nat.le_of_ble_eq_true rfl) (Nat.le_refl _) (Nat.le_refl _) ?_
  refine m_stepX ?_
  simp only [r_imul dX10_xOf_28, r_iadd dX10_xOf_29, r_iret dX10_xOf_30 (Nat.zero_le _) (Nat.zero_le _), List.cons_append, List.nil_append, Nat.reduceAdd, Option.toList, z0]
  exact hQ
theorem m_yOf {k : Nat} {i : Int32} (hM : MO hm m u A R) (hk : k < 12) (hQ : Q (some (.int (mY (A 0) k i))) hm hs) : CC X EV (d + 2) 184 [.ref m, .int (nI k), .int i] hm hs Q := by
  refine c_of (ls2 := [.ref m, .int (nI k), .int i]) Y184 (Nat.le_of_ble_eq_true rfl) rfl I184 ?_
  simp only [r_al0 dX10_yOf_0, r_getf dX10_yOf_1 F10_13, r_bipush dX10_yOf_4 kb7, r_iconst dX10_yOf_6 ki4, r_il1 dX10_yOf_7, r_imul dX10_yOf_8, r_iadd dX10_yOf_9, r_iconst dX10_yOf_10 ki1, r_iadd dX10_yOf_11, r_iald dX10_yOf_12, r_il2 dX10_yOf_13, r_al0 dX10_yOf_14, r_getf dX10_yOf_15 F10_13, r_bipush dX10_yOf_18 kb7, r_iconst dX10_yOf_20 ki4, r_il1 dX10_yOf_21, r_imul dX10_yOf_22, r_iadd dX10_yOf_23, r_iconst dX10_yOf_24 ki2, r_iadd dX10_yOf_25, r_iald dX10_yOf_26, List.cons_append, List.nil_append, Nat.reduceAdd, Option.toList, aI_ok, g10_0, z0, hM.r, rd_own hM.r, hM.r0, rd_own hM.r0, s7, s7_2, nI_1, nI_clamp (show 7 + 4 * k + 1 < 2 ^ 31 by omega), nI_clamp (show 7 + 4 * k + 2 < 2 ^ 31 by omega)]
  refine ⟨vp_in_nI (by omega) (by omega), vp_in_nI (by omega) (by omega), ?_⟩
  refine r_ist1 dX10_yOf_27 M10_162 Y171 (Nat.le_of_ble_eq_true rfl) (Nat.le_refl _) (Nat.le_refl _) ?_
  refine m_stepY ?_
  simp only [r_imul dX10_yOf_30, r_iadd dX10_yOf_31, r_iret dX10_yOf_32 (Nat.zero_le _) (Nat.zero_le _), List.cons_append, List.nil_append, Nat.reduceAdd, Option.toList, z0]
  exact hQ
theorem m_longOf {k : Nat} (hM : MO hm m u A R) (hk : k < 12) (hQ : Q (some (.int (A 0 (7 + 4 * k + 3)))) hm hs) : CC X EV (d + 1) 185 [.ref m, .int (nI k)] hm hs Q := by
  refine c_of (ls2 := [.ref m, .int (nI k)]) Y185 (Nat.le_of_ble_eq_true rfl) rfl I185 ?_
  simp only [r_al0 dX10_longOf_0, r_getf dX10_longOf_1 F10_13, r_bipush dX10_longOf_4 kb7, r_iconst dX10_longOf_6 ki4, r_il1 dX10_longOf_7, r_imul dX10_longOf_8, r_iadd dX10_longOf_9, r_iconst dX10_longOf_10 ki3, r_iadd dX10_longOf_11, r_iald dX10_longOf_12, r_iret dX10_longOf_13 (Nat.zero_le _) (Nat.zero_le _), List.cons_append, List.nil_append, Nat.reduceAdd, Option.toList, aI_ok, g10_0, z0, hM.r, rd_own hM.r, hM.r0, rd_own hM.r0, s7, s7_3, nI_clamp (show 7 + 4 * k + 3 < 2 ^ 31 by omega)]
  exact ⟨vp_in_nI (by omega) (by omega), hQ⟩
theorem m_covers {k l : Nat} {x y : Int32} (hM : MO hm m u A R) (hk : k < 12) (hl : A 0 (7 + 4 * k + 3) = nI l) (hl9 : l ≤ 9) (hQ : Q (some (.int (if ∃ i, i < l ∧ mX (A 0) k (nI i) = x ∧ mY (A 0) k (nI i) = y then 1 else 0))) hm hs) : CC X EV (d + 3) 186 [.ref m, .int (nI k), .int x, .int y] hm hs Q := by
  have hQ := zq hQ
  refine c_of (ls2 := [.ref m, .int (nI k), .int x, .int y, .null]) Y186 (Nat.le_of_ble_eq_true rfl) rfl I186 ?_
  simp only [r_iconst dX10_covers_0 ki0, r_is4 dX10_covers_1, List.cons_append, List.nil_append, Nat.reduceAdd, Option.toList, cat_f, cat_i, cat_n, cat_r, eq_self, true_and, z0]
  suffices H : ∀ i, i ≤ l → (∀ j, j < i → ¬ (mX (A 0) k (nI j) = x ∧ mY (A 0) k (nI j) = y)) → E1 X EV (d + 2) 10 0 0 (some .boolean) false cX10_covers Q 3 [.ref m, .int (nI k), .int x, .int y, .int (nI i)] [] 0 0 hm hs from H 0 (by omega) (fun j hj => absurd hj (Nat.not_lt_zero j))
  refine up_loop l _ ?_ ?_
  · intro hno
    simp only [r_il4 dX10_covers_3, r_al0 dX10_covers_5, r_il1 dX10_covers_6, List.cons_append, List.nil_append, Nat.reduceAdd, Option.toList, z0]
    refine r_iv2 dX10_covers_7 M10_196 Y185 O185 (Nat.le_of_ble_eq_true rfl) (rcv_own hM.r) (Nat.le_refl _) (Nat.le_refl _) ?_
    refine m_longOf hM hk ?_
    rw [hl]
    simp only [r_ic_ge (tgt := 43) dX10_covers_10 rfl, r_al0 dX10_covers_13, r_il1 dX10_covers_14, r_il4 dX10_covers_15, r_iconst dX10_covers_43 ki0, r_zret0 dX10_covers_44 (Nat.zero_le _) (Nat.zero_le _), r_zret1 dX10_covers_44 (Nat.zero_le _) (Nat.zero_le _), r_zretc dX10_covers_44 (Nat.zero_le _) (Nat.zero_le _), List.cons_append, List.nil_append, Nat.reduceAdd, Option.toList, z0]
    exact ⟨fun _ => hQ.2 (fun ⟨j, hj, hh⟩ => hno j hj hh), fun h => absurd (Int32.le_refl _) h⟩
  · intro i hi ih hno
    simp only [r_il4 dX10_covers_3, r_al0 dX10_covers_5, r_il1 dX10_covers_6, List.cons_append, List.nil_append, Nat.reduceAdd, Option.toList, z0]
    refine r_iv2 dX10_covers_7 M10_196 Y185 O185 (Nat.le_of_ble_eq_true rfl) (rcv_own hM.r) (Nat.le_refl _) (Nat.le_refl _) ?_
    refine m_longOf hM hk ?_
    rw [hl]
    simp only [r_ic_ge (tgt := 43) dX10_covers_10 rfl, r_al0 dX10_covers_13, r_il1 dX10_covers_14, r_il4 dX10_covers_15, r_iconst dX10_covers_43 ki0, r_zret0 dX10_covers_44 (Nat.zero_le _) (Nat.zero_le _), r_zret1 dX10_covers_44 (Nat.zero_le _) (Nat.zero_le _), r_zretc dX10_covers_44 (Nat.zero_le _) (Nat.zero_le _), List.cons_append, List.nil_append, Nat.reduceAdd, Option.toList, z0]
    refine ⟨fun h => absurd ((nI_leI (by omega) (by omega)).mp h) (by omega), fun _ => ?_⟩
    refine r_iv3 dX10_covers_17 M10_199 Y183 O183 (Nat.le_of_ble_eq_true rfl) (rcv_own hM.r) (Nat.le_refl _) (Nat.le_refl _) ?_
    refine m_xOf hM hk ?_
    simp only [r_il2 dX10_covers_20, r_ic_ne (tgt := 37) dX10_covers_21 rfl, r_al0 dX10_covers_24, r_il1 dX10_covers_25, r_il4 dX10_covers_26, r_ii4 dX10_covers_37 kn1, r_gotoB (tgt := 3) dX10_covers_40 rfl, List.cons_append, List.nil_append, Nat.reduceAdd, Option.toList, cat_f, cat_i, cat_n, cat_r, eq_self, true_and, z0]
    refine ⟨fun h => ?_, fun h => ?_⟩
    · simp (disch := omega) only [E2, nI_1, nI_add, nI_leI, nI_ltI, nI_eq, nI_clamp]
      exact ih (fun j hj => by
        rcases Nat.lt_or_ge j i with h' | h'
        · exact hno j h'
        · rw [show j = i by omega]; exact fun z => h z.1)
    · skip
      refine r_iv3 dX10_covers_28 M10_202 Y184 O184 (Nat.le_of_ble_eq_true rfl) (rcv_own hM.r) (Nat.le_refl _) (Nat.le_refl _) ?_
      refine m_yOf hM hk ?_
      simp only [r_il3 dX10_covers_31, r_ic_ne (tgt := 37) dX10_covers_32 rfl, r_iconst dX10_covers_35 ki1, r_zret0 dX10_covers_36 (Nat.zero_le _) (Nat.zero_le _), r_zret1 dX10_covers_36 (Nat.zero_le _) (Nat.zero_le _), r_zretc dX10_covers_36 (Nat.zero_le _) (Nat.zero_le _), r_ii4 dX10_covers_37 kn1, r_gotoB (tgt := 3) dX10_covers_40 rfl, List.cons_append, List.nil_append, Nat.reduceAdd, Option.toList, cat_f, cat_i, cat_n, cat_r, eq_self, true_and, z0]
      refine ⟨fun h2 => ?_, fun h2 => hQ.1 ⟨i, hi, Classical.not_not.mp h, Classical.not_not.mp h2⟩⟩
      simp (disch := omega) only [E2, nI_1, nI_add, nI_leI, nI_ltI, nI_eq, nI_clamp]
      exact ih (fun j hj => by
        rcases Nat.lt_or_ge j i with h' | h'
        · exact hno j h'
        · rw [show j = i by omega]; exact fun z => h2 z.2)
end M1
