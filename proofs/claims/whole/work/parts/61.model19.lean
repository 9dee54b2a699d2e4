/-! ===== orders, counted: lin ===== -/
def lsum (f : Nat → Nat) : Nat → Nat
  | 0 => 0
  | k + 1 => lsum f k + f k
theorem lsum_ext {f g : Nat → Nat} {k : Nat} (h : ∀ i, i < k → f i = g i) : lsum f k = lsum g k := by
  induction k with
  | zero => rfl
  | succ k ih => unfold lsum; rw [ih (fun i hi => h i (by omega)), h k (by omega)]
theorem xor_tb {s k i : Nat} : (s ^^^ 2 ^ k).testBit i = if i = k then !s.testBit i else s.testBit i := by
  rw [Nat.testBit_xor]
  by_cases e : i = k
  · rw [if_pos e, e, Nat.testBit_two_pow_self, Bool.xor_true]
  · rw [if_neg e, Nat.testBit_two_pow_of_ne (fun z => e z.symm), Bool.xor_false]
theorem xor_lt {s k : Nat} (h : s.testBit k = true) : s ^^^ 2 ^ k < s := by
  refine Nat.lt_of_le_of_ne (Nat.le_of_testBit (fun i hi => ?_)) (fun e => ?_)
  · rw [xor_tb] at hi
    by_cases e : i = k
    · rw [if_pos e, e, h] at hi; cases hi
    · rw [if_neg e] at hi; exact hi
  · have := congrArg (fun x => x.testBit k) e
    simp only [xor_tb, if_true, h] at this
    cases this
/-- in how many rows the strokes of a set can have come, each behind all that it is over -/
def lin (o : Nat → Int32) (n : Nat) (set : Nat) : Nat :=
  (if set = 0 then 1 else 0) + lsum (fun k => if _h : set.testBit k = true ∧ o k &&& (nI (set ^^^ 2 ^ k) ^^^ (-1)) = 0 then lin o n (set ^^^ 2 ^ k) else 0) n
termination_by set
decreasing_by exact xor_lt _h.1
abbrev lnC (o : Nat → Int32) (set k : Nat) : Prop := set.testBit k = true ∧ o k &&& (nI (set ^^^ 2 ^ k) ^^^ (-1)) = 0
theorem lin_eq (o : Nat → Int32) (n set : Nat) : lin o n set = (if set = 0 then 1 else 0) + lsum (fun k => if lnC o set k then lin o n (set ^^^ 2 ^ k) else 0) n := by
  conv => lhs; unfold lin
  rfl
theorem and_clr {s k : Nat} (hk : k < 31) (h : s.testBit k = true) : nI s &&& (sb k ^^^ (-1)) = nI (s ^^^ 2 ^ k) := by
  apply b_ext
  intro i hi
  rw [b_and, b_not _ hi, b_sb (by omega) hi, b_nI hi, b_nI hi, xor_tb]
  by_cases e : i = k
  · rw [if_pos e, decide_eq_true e, e, h]; rfl
  · rw [if_neg e, decide_eq_false e, Bool.not_false, Bool.and_true]
theorem lin_ext {o o' : Nat → Int32} {n : Nat} (h : ∀ k, k < n → o k = o' k) (set : Nat) : lin o n set = lin o' n set := by
  induction set using Nat.strongRecOn with
  | ind set ih =>
    rw [lin_eq, lin_eq]
    congr 1
    refine lsum_ext (fun k hk => ?_)
    have e : lnC o set k ↔ lnC o' set k := by unfold lnC; rw [h k hk]
    by_cases c : lnC o' set k
    · rw [if_pos (e.mpr c), if_pos c, ih _ (xor_lt c.1)]
    · rw [if_neg (fun z => c (e.mp z)), if_neg c]
section M19
variable {X : HM} {EV : Nat → Value} {d : Nat} {hm : HM} {hs : Nat} {Q : QT} {m n : Nat} {u : Nat → Int32} {A : Nat → Nat → Int32} {R : Nat → Int64} {w h nl np nw nr : Nat} {L : Nat → Nat}
theorem m_crossing {a b : Int32} (hM : MO hm m u A R) (hn : A 0 2 = nI n) (hn12 : n ≤ 12) (hL : LN (A 0) n L)
    (h0 : ¬ ((0 ≤ a ∧ a < nI n) ∧ (0 ≤ b ∧ b < nI n) ∧ a ≠ b) → ∀ hm' u' A', MO hm' m u' A' R → KM u u' A A' → sm m (m + 16) hm hm' → Q (some (.int (-2))) hm' hs)
    (h1 : ∀ i j, i < n → j < n → i ≠ j → a = nI i → b = nI j → ∀ hm' u' A', MO hm' m u' A' R → KM u u' A A' → sm m (m + 16) hm hm' → Q (some (.int (cmn (A 0) L i j))) hm' hs) : CC X EV (d + 5) 206 [.ref m, .int a, .int b] hm hs Q := by
  have hM1 := hM.o (upd u 4 0)
  have s1 : sm m (m + 16) hm (im_up hm m (.inr (10, fs_MO m (upd u 4 0)))) := sm.rf.up (by omega)
  refine c_of (ls2 := [.ref m, .int a, .int b]) Y206 (Nat.le_of_ble_eq_true rfl) rfl I206 ?_
  simp (disch := first | omega | (simp only [List.length_cons, List.length_nil]; omega)) only [r_al0 dX10_crossing_0, r_iconst dX10_crossing_1 ki0, r_putf dX10_crossing_2 F10_1, r_al0 dX10_crossing_5, r_il1 dX10_crossing_6, List.cons_append, List.nil_append, Nat.reduceAdd, Option.toList, fit_i, ft10_4, p10_4, pk_un, pk_us, rd_up_eq, rd_up_ne, true_and, up_eq, up_ne, up_up, z0, hM.r, rd_own hM.r, hM.r, rd_own hM.r]
  generalize im_up hm m (.inr (10, fs_MO m (upd u 4 0))) = hm1 at hM1 s1 ⊢
  refine r_iv2 dX10_crossing_7 M10_229 Y182 O182 (Nat.le_of_ble_eq_true rfl) (rcv_own hM1.r) (Nat.le_refl _) (Nat.le_refl _) ?_
  refine m_isStroke hM1 hn hn12 ?_
  simp only [r_if_eq (tgt := 35) dX10_crossing_10 rfl, r_al0 dX10_crossing_13, r_il2 dX10_crossing_14, r_bipush dX10_crossing_35 kbm2, r_iret dX10_crossing_37 (Nat.zero_le _) (Nat.zero_le _), List.cons_append, List.nil_append, Nat.reduceAdd, Option.toList, z0]
  refine ⟨fun h => h0 (fun z => h z.1) _ _ _ hM1 KM.rf.u4 s1, fun h => ?_⟩
  refine r_iv2 dX10_crossing_15 M10_229 Y182 O182 (Nat.le_of_ble_eq_true rfl) (rcv_own hM1.r) (Nat.le_refl _) (Nat.le_refl _) ?_
  refine m_isStroke hM1 hn hn12 ?_
  simp only [r_if_eq (tgt := 35) dX10_crossing_18 rfl, r_il1 dX10_crossing_21, r_il2 dX10_crossing_22, r_ic_eq (tgt := 35) dX10_crossing_23 rfl, r_al0 dX10_crossing_26, r_il1 dX10_crossing_27, r_il2 dX10_crossing_28, r_bipush dX10_crossing_35 kbm2, r_iret dX10_crossing_37 (Nat.zero_le _) (Nat.zero_le _), List.cons_append, List.nil_append, Nat.reduceAdd, Option.toList, z0]
  refine ⟨fun h2 => h0 (fun z => h2 z.2.1) _ _ _ hM1 KM.rf.u4 s1, fun h2 => ⟨fun h3 => h0 (fun z => z.2.2 h3) _ _ _ hM1 KM.rf.u4 s1, fun h3 => ?_⟩⟩
  obtain ⟨i, hi, rfl⟩ := ix (by omega) (Classical.not_not.mp h)
  obtain ⟨j, hj, rfl⟩ := ix (by omega) (Classical.not_not.mp h2)
  refine r_iv3 dX10_crossing_29 M10_209 Y187 O187 (Nat.le_of_ble_eq_true rfl) (rcv_own hM1.r) (Nat.le_refl _) (Nat.le_refl _) ?_
  refine m_commonOf hM1 (by omega) (by omega) (hL i hi).1 (hL i hi).2 (hL j hj).1 (hL j hj).2 ?_
  simp only [r_goto (tgt := 37) dX10_crossing_32 rfl, r_iret dX10_crossing_37 (Nat.zero_le _) (Nat.zero_le _), List.cons_append, List.nil_append, Nat.reduceAdd, Option.toList, z0]
  exact h1 i j hi hj (fun e => h3 (congrArg nI e)) rfl rfl _ _ _ hM1 KM.rf.u4 s1
theorem m_ways (hM : MO hm m u A R) (hn : A 0 2 = nI n) (hn12 : n ≤ 12)
    (hQ : ∀ hm' u' A', MO hm' m u' A' R → KM u u' A A' → sm m (m + 16) hm hm' → Q (some (.int (nI (wyM (A 0) n)))) hm' hs) : CC X EV (d + 4) 213 [.ref m] hm hs Q := by
  have hM1 := hM.o (upd u 4 0)
  have s1 : sm m (m + 16) hm (im_up hm m (.inr (10, fs_MO m (upd u 4 0)))) := sm.rf.up (by omega)
  refine c_of (ls2 := [.ref m]) Y213 (Nat.le_of_ble_eq_true rfl) rfl I213 ?_
  simp (disch := first | omega | (simp only [List.length_cons, List.length_nil]; omega)) only [r_al0 dX10_ways_0, r_iconst dX10_ways_1 ki0, r_putf dX10_ways_2 F10_1, r_al0 dX10_ways_5, List.cons_append, List.nil_append, Nat.reduceAdd, Option.toList, fit_i, ft10_4, p10_4, pk_un, pk_us, rd_up_eq, rd_up_ne, true_and, up_eq, up_ne, up_up, z0, hM.r, rd_own hM.r, hM.r, rd_own hM.r]
  generalize im_up hm m (.inr (10, fs_MO m (upd u 4 0))) = hm1 at hM1 s1 ⊢
  refine r_iv1 dX10_ways_6 M10_221 Y191 O191 (Nat.le_of_ble_eq_true rfl) (rcv_own hM1.r) (Nat.le_refl _) (Nat.le_refl _) ?_
  refine m_lays2 hM1 (n := n) hn hn12 (fun hm2 u2 A2 hM2 k2 l2 s2 => ?_)
  have hQ := hQ hm2 u2 A2 hM2 (KM.rf.u4.trans k2) (s1.trans s2)
  have e15 : u2 15 = nI (wyM (A 0) n) := by rw [l2.2.1, k2.S]
  simp only [r_al0 dX10_ways_9, r_getf dX10_ways_10 F10_212, r_iret dX10_ways_13 (Nat.zero_le _) (Nat.zero_le _), List.cons_append, List.nil_append, Nat.reduceAdd, Option.toList, g10_15, z0, hM2.r, rd_own hM2.r, hM2.r, rd_own hM2.r, e15]
  exact hQ
theorem m_paired {a b : Int32} (hM : MO hm m u A R) (hn : A 0 2 = nI n) (hn12 : n ≤ 12)
    (h0 : ¬ ((0 ≤ a ∧ a < nI n) ∧ (0 ≤ b ∧ b < nI n) ∧ a ≠ b) → ∀ hm' u' A', MO hm' m u' A' R → KM u u' A A' → sm m (m + 16) hm hm' → Q (some (.int (-2))) hm' hs)
    (hQ : ∀ i j, i < n → j < n → i ≠ j → a = nI i → b = nI j → ∀ hm' u' A', MO hm' m u' A' R → KM u u' A A' → sm m (m + 16) hm hm' → Q (some (.int (if (if bt (cl (A 0) n i) j = true then cl (A 0) n i &&& acc (fun o => bt (cl (A 0) n o) j = true) n else if bt (cl (A 0) n j) i = true then cl (A 0) n j &&& acc (fun o => bt (cl (A 0) n o) i = true) n else 0) = 0 then 1 else 0))) hm' hs) : CC X EV (d + 3) 216 [.ref m, .int a, .int b] hm hs Q := by
  have hM1 := hM.o (upd u 4 0)
  have s1 : sm m (m + 16) hm (im_up hm m (.inr (10, fs_MO m (upd u 4 0)))) := sm.rf.up (by omega)
  refine c_of (ls2 := [.ref m, .int a, .int b, .null]) Y216 (Nat.le_of_ble_eq_true rfl) rfl I216 ?_
  simp (disch := first | omega | (simp only [List.length_cons, List.length_nil]; omega)) only [r_al0 dX10_paired_0, r_iconst dX10_paired_1 ki0, r_putf dX10_paired_2 F10_1, r_al0 dX10_paired_5, r_il1 dX10_paired_6, List.cons_append, List.nil_append, Nat.reduceAdd, Option.toList, fit_i, ft10_4, p10_4, pk_un, pk_us, rd_up_eq, rd_up_ne, true_and, up_eq, up_ne, up_up, z0, hM.r, rd_own hM.r, hM.r, rd_own hM.r]
  generalize im_up hm m (.inr (10, fs_MO m (upd u 4 0))) = hm1 at hM1 s1 ⊢
  refine r_iv2 dX10_paired_7 M10_229 Y182 O182 (Nat.le_of_ble_eq_true rfl) (rcv_own hM1.r) (Nat.le_refl _) (Nat.le_refl _) ?_
  refine m_isStroke hM1 hn hn12 ?_
  simp only [r_if_eq (tgt := 26) dX10_paired_10 rfl, r_al0 dX10_paired_13, r_il2 dX10_paired_14, r_bipush dX10_paired_26 kbm2, r_iret dX10_paired_28 (Nat.zero_le _) (Nat.zero_le _), List.cons_append, List.nil_append, Nat.reduceAdd, Option.toList, z0]
  refine ⟨fun h => h0 (fun z => h z.1) _ _ _ hM1 KM.rf.u4 s1, fun h => ?_⟩
  refine r_iv2 dX10_paired_15 M10_229 Y182 O182 (Nat.le_of_ble_eq_true rfl) (rcv_own hM1.r) (Nat.le_refl _) (Nat.le_refl _) ?_
  refine m_isStroke hM1 hn hn12 ?_
  simp only [r_if_eq (tgt := 26) dX10_paired_18 rfl, r_il1 dX10_paired_21, r_il2 dX10_paired_22, r_ic_ne (tgt := 29) dX10_paired_23 rfl, r_bipush dX10_paired_26 kbm2, r_iret dX10_paired_28 (Nat.zero_le _) (Nat.zero_le _), r_al0 dX10_paired_29, List.cons_append, List.nil_append, Nat.reduceAdd, Option.toList, z0]
  refine ⟨fun h2 => h0 (fun z => h2 z.2.1) _ _ _ hM1 KM.rf.u4 s1, fun h2 => ⟨fun h3 => ?_, fun h3 => h0 (fun z => z.2.2 (Classical.not_not.mp h3)) _ _ _ hM1 KM.rf.u4 s1⟩⟩
  obtain ⟨i, hi, rfl⟩ := ix (by omega) (Classical.not_not.mp h)
  obtain ⟨j, hj, rfl⟩ := ix (by omega) (Classical.not_not.mp h2)
  have hii := vp_in_nI (show i < 12 by omega) (by omega)
  have hjj := vp_in_nI (show j < 12 by omega) (by omega)
  refine r_iv1 dX10_paired_30 M10_169 Y189 O189 (Nat.le_of_ble_eq_true rfl) (rcv_own hM1.r) (Nat.le_refl _) (Nat.le_refl _) ?_
  refine m_laysOver2 hM1 hn hn12 (fun hm2 A2 hM2 k2 l2 s2 => ?_)
  have hQ := hQ i j hi hj (fun e => h3 (congrArg nI e)) rfl rfl hm2 _ A2 hM2 (KM.rf.u4.trans k2) (s1.trans s2)
  rw [← k2.S] at hQ hn
  have ex : ∀ k, k < n → acc (fun o => bt (cl (A2 0) n o) k = true) n = acc (fun o => bt (A2 13 o) k = true) n := fun k hk => acc_ext (fun o ho => by rw [l2 o ho])
  rw [ex i hi, ex j hj, ← l2 i hi, ← l2 j hj] at hQ
  simp only [r_al0 dX10_paired_33, r_getf dX10_paired_34 F10_30, r_il1 dX10_paired_37, r_iald dX10_paired_38, r_il2 dX10_paired_39, List.cons_append, List.nil_append, Nat.reduceAdd, Option.toList, aI_ok, g10_13, z0, hM2.r, rd_own hM2.r, hM2.r13, rd_own hM2.r13, nI_clamp (show i < 2 ^ 31 by omega)]
  refine ⟨hii, ?_⟩
  refine r_ist2 dX10_paired_40 M10_178 Y156 (Nat.le_of_ble_eq_true rfl) (Nat.le_refl _) (Nat.le_refl _) ?_
  refine m_has (by omega) ?_
  have fin : ∀ T, Q (some (.int (if T = 0 then 1 else 0))) hm2 hs → ∀ y, E1 X EV (d + 2) 10 0 0 (some .int) false cX10_paired Q 90 [.ref m, .int (nI i), .int (nI j), y] [.int T] 0 0 hm2 hs := by
    intro T hT y
    simp only [r_is3 dX10_paired_90, r_il3 dX10_paired_91, r_if_ne (tgt := 99) dX10_paired_92 rfl, r_iconst dX10_paired_95 ki1, r_goto (tgt := 100) dX10_paired_96 rfl, r_iconst dX10_paired_99 ki0, r_iret dX10_paired_100 (Nat.zero_le _) (Nat.zero_le _), List.cons_append, List.nil_append, Nat.reduceAdd, Option.toList, cat_f, cat_i, cat_n, cat_r, eq_self, true_and, z0]
    refine ⟨fun z => ?_, fun z => ?_⟩
    · rw [if_neg z] at hT; exact hT
    · rw [if_pos (Classical.not_not.mp z)] at hT; exact hT
  simp only [r_if_eq (tgt := 61) dX10_paired_43 rfl, r_al0 dX10_paired_46, r_getf dX10_paired_47 F10_30, r_il1 dX10_paired_50, r_iald dX10_paired_51, r_al0 dX10_paired_52, r_il2 dX10_paired_53, r_al0 dX10_paired_61, r_getf dX10_paired_62 F10_30, r_il2 dX10_paired_65, r_iald dX10_paired_66, r_il1 dX10_paired_67, List.cons_append, List.nil_append, Nat.reduceAdd, Option.toList, aI_ok, g10_13, z0, hM2.r, rd_own hM2.r, hM2.r13, rd_own hM2.r13, nI_clamp (show i < 2 ^ 31 by omega), nI_clamp (show j < 2 ^ 31 by omega)]
  refine ⟨fun h4 => ⟨hjj, ?_⟩, fun h4 => ⟨hii, ?_⟩⟩
  · rw [if_neg h4] at hQ
    refine r_ist2 dX10_paired_68 M10_178 Y156 (Nat.le_of_ble_eq_true rfl) (Nat.le_refl _) (Nat.le_refl _) ?_
    refine m_has (by omega) ?_
    simp only [r_if_eq (tgt := 89) dX10_paired_71 rfl, r_al0 dX10_paired_74, r_getf dX10_paired_75 F10_30, r_il2 dX10_paired_78, r_iald dX10_paired_79, r_al0 dX10_paired_80, r_il1 dX10_paired_81, r_iconst dX10_paired_89 ki0, List.cons_append, List.nil_append, Nat.reduceAdd, Option.toList, aI_ok, g10_13, z0, hM2.r, rd_own hM2.r, hM2.r13, rd_own hM2.r13, nI_clamp (show i < 2 ^ 31 by omega), nI_clamp (show j < 2 ^ 31 by omega)]
    refine ⟨fun h5 => ?_, fun h5 => ⟨hjj, ?_⟩⟩
    · rw [if_neg h5] at hQ
      exact fin 0 hQ _
    · rw [if_pos (Classical.not_not.mp h5)] at hQ
      refine r_iv2 dX10_paired_82 M10_256 Y203 O203 (Nat.le_of_ble_eq_true rfl) (rcv_own hM2.r) (Nat.le_refl _) (Nat.le_refl _) ?_
      refine m_underOf hM2 hn hn12 (by omega) ?_
      simp only [r_iand dX10_paired_85, r_gotoB (tgt := 90) dX10_paired_86 rfl, List.cons_append, List.nil_append, Nat.reduceAdd, Option.toList, z0, E2]
      exact fin _ hQ _
  · rw [if_pos (Classical.not_not.mp h4)] at hQ
    refine r_iv2 dX10_paired_54 M10_256 Y203 O203 (Nat.le_of_ble_eq_true rfl) (rcv_own hM2.r) (Nat.le_refl _) (Nat.le_refl _) ?_
    refine m_underOf hM2 hn hn12 (by omega) ?_
    simp only [r_iand dX10_paired_57, r_gotoB (tgt := 90) dX10_paired_58 rfl, List.cons_append, List.nil_append, Nat.reduceAdd, Option.toList, z0, E2]
    exact fin _ hQ _
theorem m_ordersNow (hM : MO hm m u A R) (hn : A 0 2 = nI n) (hn12 : n ≤ 12)
    (hQ : ∀ hm' R', MO hm' m u A R' → sm m (m + 16) hm hm' → Q (some (.long (lN (lin (A 13) n (2 ^ n - 1))))) hm' hs) : CC X EV (d + 2) 209 [.ref m] hm hs Q := by
  have hpw := pw12 hn12
  refine c_of (ls2 := [.ref m, .null, .null, .null]) Y209 (Nat.le_of_ble_eq_true rfl) rfl I209 ?_
  simp only [r_iconst dX10_ordersNow_0 ki1, r_al0 dX10_ordersNow_1, r_getf dX10_ordersNow_2 F10_13, r_iconst dX10_ordersNow_5 ki2, r_iald dX10_ordersNow_6, r_ishl dX10_ordersNow_7, r_iconst dX10_ordersNow_8 ki1, r_isub dX10_ordersNow_9, r_is1 dX10_ordersNow_10, r_iconst dX10_ordersNow_11 ki0, r_is2 dX10_ordersNow_12, List.cons_append, List.nil_append, Nat.reduceAdd, Option.toList, aI_ok, cat_f, cat_i, cat_n, cat_r, eq_self, g10_0, true_and, z0, hM.r, rd_own hM.r, hM.r0, rd_own hM.r0, vs2, ck2, hn, true_and, whole_eq hn12]
  suffices H : ∀ set, set ≤ 2 ^ n → ∀ hm' R' y, MO hm' m u A R' → (∀ s, s < set → R' s = lN (lin (A 13) n s)) → sm m (m + 16) hm hm' → E1 X EV (d + 1) 10 0 0 (some .long) false cX10_ordersNow Q 13 [.ref m, .int (nI (2 ^ n - 1)), .int (nI set), y] [] 0 0 hm' hs from
    H 0 (by omega) hm R _ hM (fun s hs => absurd hs (Nat.not_lt_zero s)) sm.rf
  refine up_loop (2 ^ n) _ ?_ ?_
  · intro hm' R' y hM' hR s'
    simp (disch := first | omega | (simp only [List.length_cons, List.length_nil]; omega)) only [r_il2 dX10_ordersNow_13, r_il1 dX10_ordersNow_14, r_ic_gt (tgt := 105) dX10_ordersNow_15 rfl, r_al0 dX10_ordersNow_18, r_getf dX10_ordersNow_19 F10_42, r_il2 dX10_ordersNow_22, r_il2 dX10_ordersNow_23, r_if_ne (tgt := 31) dX10_ordersNow_24 rfl, r_lconst dX10_ordersNow_27 kl1, r_goto (tgt := 32) dX10_ordersNow_28 rfl, r_lconst dX10_ordersNow_31 kl0, r_last dX10_ordersNow_32, r_iconst dX10_ordersNow_33 ki0, r_is3 dX10_ordersNow_34, r_il3 dX10_ordersNow_35, r_al0 dX10_ordersNow_36, r_getf dX10_ordersNow_37 F10_13, r_iconst dX10_ordersNow_40 ki2, r_iald dX10_ordersNow_41, r_ic_ge (tgt := 99) dX10_ordersNow_42 rfl, r_il2 dX10_ordersNow_45, r_il3 dX10_ordersNow_46, r_ii2 dX10_ordersNow_99 kn1, r_gotoB (tgt := 13) dX10_ordersNow_102 rfl, r_al0 dX10_ordersNow_105, r_getf dX10_ordersNow_106 F10_42, r_il1 dX10_ordersNow_109, r_lald dX10_ordersNow_110, r_lret dX10_ordersNow_111 (Nat.zero_le _) (Nat.zero_le _), List.cons_append, List.nil_append, Nat.reduceAdd, Option.toList, aI_ok, aJ_ok, cat_f, cat_i, cat_n, cat_r, eq_self, g10_0, g10_19, pk_un, pk_us, rd_up_eq, rd_up_ne, sJ_ok, true_and, up_eq, up_ne, up_up, z0, hM'.r, rd_own hM'.r, hM'.r19, rd_own hM'.r19, nI_clamp (show 2 ^ n - 1 < 2 ^ 31 by omega), hR (2 ^ n - 1) (by omega)]
    refine ⟨fun h => ⟨vp_in_nI (by omega) (by omega), hQ hm' R' hM' s'⟩, fun h => absurd (nI_lt (show 2 ^ n - 1 < 2 ^ n by omega) (by omega)) h⟩
  · intro set hset ih hm' R' y hM' hR s'
    have h35 : ∀ hm2 R2, MO hm2 m u A R2 → (∀ s, s < set → R2 s = lN (lin (A 13) n s)) → R2 set = (if set = 0 then 1 else 0) → sm m (m + 16) hm hm2 → E1 X EV (d + 1) 10 0 0 (some .long) false cX10_ordersNow Q 35 [.ref m, .int (nI (2 ^ n - 1)), .int (nI set), .int (nI 0)] [] 0 0 hm2 hs := by
      intro hm2 R2 hM2 g1 g2 g3
      suffices H : ∀ k, k ≤ n → ∀ hm3 R3, MO hm3 m u A R3 → (∀ s, s < set → R3 s = lN (lin (A 13) n s)) → R3 set = lN ((if set = 0 then 1 else 0) + lsum (fun k => if lnC (A 13) set k then lin (A 13) n (set ^^^ 2 ^ k) else 0) k) → sm m (m + 16) hm hm3 → E1 X EV (d + 1) 10 0 0 (some .long) false cX10_ordersNow Q 35 [.ref m, .int (nI (2 ^ n - 1)), .int (nI set), .int (nI k)] [] 0 0 hm3 hs from
        H 0 (by omega) hm2 R2 hM2 g1 (by rw [g2]; by_cases z : set = 0 <;> simp only [z, if_true, if_false] <;> rfl) g3
      refine up_loop n _ ?_ ?_
      · intro hm3 R3 hM3 e1 e2 e3
        simp only [r_il3 dX10_ordersNow_35, r_al0 dX10_ordersNow_36, r_getf dX10_ordersNow_37 F10_13, r_iconst dX10_ordersNow_40 ki2, r_iald dX10_ordersNow_41, r_ic_ge (tgt := 99) dX10_ordersNow_42 rfl, r_il2 dX10_ordersNow_45, r_il3 dX10_ordersNow_46, r_ii2 dX10_ordersNow_99 kn1, r_gotoB (tgt := 13) dX10_ordersNow_102 rfl, List.cons_append, List.nil_append, Nat.reduceAdd, Option.toList, aI_ok, cat_f, cat_i, cat_n, cat_r, eq_self, g10_0, true_and, z0, hM3.r, rd_own hM3.r, hM3.r0, rd_own hM3.r0, vs2, ck2, hn, true_and]
        refine ⟨fun _ => ?_, fun h => absurd (Int32.le_refl _) h⟩
        simp (disch := omega) only [E2, nI_1, nI_add, nI_leI, nI_ltI, nI_eq, nI_clamp]
        refine ih hm3 R3 _ hM3 (fun s hs => ?_) e3
        rcases Nat.lt_or_ge s set with h' | h'
        · exact e1 s h'
        · rw [show s = set by omega, e2, lin_eq]
      · intro k hk ih2 hm3 R3 hM3 e1 e2 e3
        have bitset : (bt (nI set) k = true) = (set.testBit k = true) := by rw [b_nI (by omega)]
        simp only [r_il3 dX10_ordersNow_35, r_al0 dX10_ordersNow_36, r_getf dX10_ordersNow_37 F10_13, r_iconst dX10_ordersNow_40 ki2, r_iald dX10_ordersNow_41, r_ic_ge (tgt := 99) dX10_ordersNow_42 rfl, r_il2 dX10_ordersNow_45, r_il3 dX10_ordersNow_46, r_ii2 dX10_ordersNow_99 kn1, r_gotoB (tgt := 13) dX10_ordersNow_102 rfl, List.cons_append, List.nil_append, Nat.reduceAdd, Option.toList, aI_ok, cat_f, cat_i, cat_n, cat_r, eq_self, g10_0, true_and, z0, hM3.r, rd_own hM3.r, hM3.r0, rd_own hM3.r0, vs2, ck2, hn, true_and]
        refine ⟨fun h => absurd ((nI_leI (by omega) (by omega)).mp h) (by omega), fun _ => ?_⟩
        refine r_ist2 dX10_ordersNow_47 M10_178 Y156 (Nat.le_of_ble_eq_true rfl) (Nat.le_refl _) (Nat.le_refl _) ?_
        refine m_has (by omega) ?_
        have a93 : ∀ hm4 R4, MO hm4 m u A R4 → (∀ s, s < set → R4 s = lN (lin (A 13) n s)) → R4 set = lN ((if set = 0 then 1 else 0) + lsum (fun k => if lnC (A 13) set k then lin (A 13) n (set ^^^ 2 ^ k) else 0) (k + 1)) → sm m (m + 16) hm hm4 → E1 X EV (d + 1) 10 0 0 (some .long) false cX10_ordersNow Q 93 [.ref m, .int (nI (2 ^ n - 1)), .int (nI set), .int (nI k)] [] 0 0 hm4 hs := by
          intro hm4 R4 hM4 f1 f2 f3
          have := ih2 hm4 R4 hM4 f1 f2 f3
          simp only [r_ii3 dX10_ordersNow_93 kn1, r_gotoB (tgt := 35) dX10_ordersNow_96 rfl, List.cons_append, List.nil_append, Nat.reduceAdd, Option.toList, cat_f, cat_i, cat_n, cat_r, eq_self, true_and, z0]
          simp (disch := omega) only [E2, nI_1, nI_add, nI_leI, nI_ltI, nI_eq, nI_clamp]
          exact this
        by_cases hb : set.testBit k = true
        · have hxl := xor_lt hb
          have eclr : nI set &&& ((1 : Int32) <<< (nI k &&& 31) ^^^ (-1)) = nI (set ^^^ 2 ^ k) := and_clr (by omega) hb
          simp (disch := first | omega | (simp only [List.length_cons, List.length_nil]; omega)) only [r_if_eqB (tgt := 93) dX10_ordersNow_50 rfl, r_al0 dX10_ordersNow_53, r_getf dX10_ordersNow_54 F10_30, r_il3 dX10_ordersNow_57, r_iald dX10_ordersNow_58, r_il2 dX10_ordersNow_59, r_iconst dX10_ordersNow_60 ki1, r_il3 dX10_ordersNow_61, r_ishl dX10_ordersNow_62, r_iconst dX10_ordersNow_63 kim1, r_ixor dX10_ordersNow_64, r_iand dX10_ordersNow_65, r_iconst dX10_ordersNow_66 kim1, r_ixor dX10_ordersNow_67, r_iand dX10_ordersNow_68, r_if_neB (tgt := 93) dX10_ordersNow_69 rfl, r_al0 dX10_ordersNow_72, r_getf dX10_ordersNow_73 F10_42, r_il2 dX10_ordersNow_76, r_dup2_ir dX10_ordersNow_77, r_dup2_l dX10_ordersNow_77, r_lald dX10_ordersNow_78, r_al0 dX10_ordersNow_79, r_getf dX10_ordersNow_80 F10_42, r_il2 dX10_ordersNow_83, r_iconst dX10_ordersNow_84 ki1, r_il3 dX10_ordersNow_85, r_ishl dX10_ordersNow_86, r_iconst dX10_ordersNow_87 kim1, r_ixor dX10_ordersNow_88, r_iand dX10_ordersNow_89, r_lald dX10_ordersNow_90, r_ladd dX10_ordersNow_91, r_last dX10_ordersNow_92, List.cons_append, List.nil_append, Nat.reduceAdd, Option.toList, aI_ok, aJ_ok, g10_13, g10_19, pk_un, pk_us, rd_up_eq, rd_up_ne, sJ_ok, up_eq, up_ne, up_up, z0, hM3.r, rd_own hM3.r, hM3.r0, rd_own hM3.r0, hM3.r13, rd_own hM3.r13, hM3.r19, rd_own hM3.r19, bitset, nI_clamp (show k < 2 ^ 31 by omega), nI_clamp (show set < 2 ^ 31 by omega), eclr, nI_clamp (show set ^^^ 2 ^ k < 2 ^ 31 by omega)]
          refine ⟨fun z => absurd hb z, fun _ => ⟨vp_in_nI (by omega) (by omega), fun z => ?_, fun z => ?_⟩⟩
          · simp (disch := omega) only [E2, nI_1, nI_add, nI_leI, nI_ltI, nI_eq, nI_clamp]
            refine a93 hm3 R3 hM3 e1 ?_ e3
            rw [e2, lsum, if_neg (c := lnC (A 13) set k) (fun c => z c.2), Nat.add_zero]
          · have z := Classical.not_not.mp z
            refine ⟨vp_in_nI (by omega) (by omega), vp_in_nI (by omega) (by omega), vp_in_nI (by omega) (by omega), ?_⟩
            refine a93 _ _ (hM3.w19 _) (fun s hs => ?_) ?_ (e3.up (by omega))
            · rw [pk_uLn (by omega)]; exact e1 s hs
            · rw [pk_uLs, e2, e1 _ hxl, lN_add, lsum, if_pos (c := lnC (A 13) set k) ⟨hb, z⟩, Nat.add_assoc]
        · simp (disch := first | omega | (simp only [List.length_cons, List.length_nil]; omega)) only [r_if_eqB (tgt := 93) dX10_ordersNow_50 rfl, r_al0 dX10_ordersNow_53, r_getf dX10_ordersNow_54 F10_30, r_il3 dX10_ordersNow_57, r_iald dX10_ordersNow_58, r_il2 dX10_ordersNow_59, r_iconst dX10_ordersNow_60 ki1, r_il3 dX10_ordersNow_61, r_ishl dX10_ordersNow_62, r_iconst dX10_ordersNow_63 kim1, r_ixor dX10_ordersNow_64, r_iand dX10_ordersNow_65, r_iconst dX10_ordersNow_66 kim1, r_ixor dX10_ordersNow_67, r_iand dX10_ordersNow_68, r_if_neB (tgt := 93) dX10_ordersNow_69 rfl, r_al0 dX10_ordersNow_72, r_getf dX10_ordersNow_73 F10_42, r_il2 dX10_ordersNow_76, r_dup2_ir dX10_ordersNow_77, r_dup2_l dX10_ordersNow_77, r_lald dX10_ordersNow_78, r_al0 dX10_ordersNow_79, r_getf dX10_ordersNow_80 F10_42, r_il2 dX10_ordersNow_83, r_iconst dX10_ordersNow_84 ki1, r_il3 dX10_ordersNow_85, r_ishl dX10_ordersNow_86, r_iconst dX10_ordersNow_87 kim1, r_ixor dX10_ordersNow_88, r_iand dX10_ordersNow_89, r_lald dX10_ordersNow_90, r_ladd dX10_ordersNow_91, r_last dX10_ordersNow_92, List.cons_append, List.nil_append, Nat.reduceAdd, Option.toList, aI_ok, aJ_ok, g10_13, g10_19, pk_un, pk_us, rd_up_eq, rd_up_ne, sJ_ok, up_eq, up_ne, up_up, z0, bitset]
          refine ⟨fun _ => ?_, fun z => absurd (Classical.not_not.mp z) hb⟩
          simp (disch := omega) only [E2, nI_1, nI_add, nI_leI, nI_ltI, nI_eq, nI_clamp]
          refine a93 hm3 R3 hM3 e1 ?_ e3
          rw [e2, lsum, if_neg (c := lnC (A 13) set k) (fun c => hb c.1), Nat.add_zero]
    simp (disch := first | omega | (simp only [List.length_cons, List.length_nil]; omega)) only [r_il2 dX10_ordersNow_13, r_il1 dX10_ordersNow_14, r_ic_gt (tgt := 105) dX10_ordersNow_15 rfl, r_al0 dX10_ordersNow_18, r_getf dX10_ordersNow_19 F10_42, r_il2 dX10_ordersNow_22, r_il2 dX10_ordersNow_23, r_if_ne (tgt := 31) dX10_ordersNow_24 rfl, r_lconst dX10_ordersNow_27 kl1, r_goto (tgt := 32) dX10_ordersNow_28 rfl, r_lconst dX10_ordersNow_31 kl0, r_last dX10_ordersNow_32, r_iconst dX10_ordersNow_33 ki0, r_is3 dX10_ordersNow_34, r_al0 dX10_ordersNow_105, r_getf dX10_ordersNow_106 F10_42, r_il1 dX10_ordersNow_109, r_lald dX10_ordersNow_110, r_lret dX10_ordersNow_111 (Nat.zero_le _) (Nat.zero_le _), List.cons_append, List.nil_append, Nat.reduceAdd, Option.toList, aJ_ok, cat_f, cat_i, cat_n, cat_r, eq_self, g10_19, pk_un, pk_us, rd_up_eq, rd_up_ne, sJ_ok, true_and, up_eq, up_ne, up_up, z0, hM'.r, rd_own hM'.r, hM'.r19, rd_own hM'.r19, nI_clamp (show set < 2 ^ 31 by omega)]
    refine ⟨fun h => absurd ((nI_ltI (show 2 ^ n - 1 < 2 ^ 31 by omega) (show set < 2 ^ 31 by omega)).mp h) (by omega), fun _ => ⟨fun z => ⟨vp_in_nI (by omega) (by omega), ?_⟩, fun z => ⟨vp_in_nI (by omega) (by omega), ?_⟩⟩⟩
    · have hne : set ≠ 0 := fun e => z (by rw [e]; rfl)
      refine h35 _ _ (hM'.w19 _) (fun s hs => ?_) ?_ (s'.up (by omega))
      · rw [pk_uLn (by omega)]; exact hR s hs
      · rw [pk_uLs, if_neg hne]
    · have he : set = 0 := (nI_eq (show set < 2 ^ 31 by omega) (show 0 < 2 ^ 31 by omega)).mp (Classical.not_not.mp z)
      refine h35 _ _ (hM'.w19 _) (fun s hs => ?_) ?_ (s'.up (by omega))
      · rw [pk_uLn (by omega)]; exact hR s hs
      · rw [pk_uLs, if_pos he]
end M19
