section M6
variable {X : HM} {EV : Nat → Value} {d : Nat} {hm : HM} {hs : Nat} {Q : QT} {m n : Nat} {u : Nat → Int32} {A : Nat → Nat → Int32} {R : Nat → Int64}
/-- the acts behind a kept one -/
def remF (A : Nat → Nat → Int32) (a : Nat) : Nat → Int32 := remA (if a = 12 then shfA (A 2) 374 else A 2) (A 0) (min a 11)
theorem m_takes {x y : Int32} {a : Nat} (hM : MO hm m u A R) (hn : A 0 2 = nI n) (hn12 : n ≤ 12) (ha : u 3 = nI a) (ha12 : a ≤ 12)
    (h0 : ¬ ((0 ≤ x ∧ x < nI n) ∧ (0 ≤ y ∧ y < nI n)) → ∀ hm', MO hm' m (upd u 4 0) A R → sm m (m + 16) hm hm' → Q (some (.int (-2))) hm' hs)
    (h1 : ∀ i j, i < n → j < n → x = nI i → y = nI j → ¬ bt (A 0 (195 + i)) j = true → ∀ hm', MO hm' m (upd u 4 0) A R → sm m (m + 16) hm hm' → Q (some (.int (-5))) hm' hs)
    (h2 : ∀ i j, i < n → j < n → x = nI i → y = nI j → bt (A 0 (195 + i)) j = true → ∀ S, S = upd (A 0) (195 + i) (A 0 (195 + i) &&& (sb j ^^^ (-1))) → ∀ hm', MO hm' m (upd (upd u 4 0) 3 (nI (min a 11 + 1))) (va_up (va_up A 2 (remF A a)) 0 S) R → sm m (m + 16) hm hm' → Q (some (.int (sumI (fun k => pcnt (S (195 + k))) n))) hm' hs) : CC X EV (d + 3) 198 [.ref m, .int x, .int y] hm hs Q := by
  have hM1 := hM.o (upd u 4 0)
  have s1 : sm m (m + 16) hm (im_up hm m (.inr (10, fs_MO m (upd u 4 0)))) := sm.rf.up (by omega)
  refine c_of (ls2 := [.ref m, .int x, .int y]) Y198 (Nat.le_of_ble_eq_true rfl) rfl I198 ?_
  simp (disch := first | omega | (simp only [List.length_cons, List.length_nil]; omega)) only [r_al0 dX10_takes_0, r_iconst dX10_takes_1 ki0, r_putf dX10_takes_2 F10_1, r_al0 dX10_takes_5, r_il1 dX10_takes_6, List.cons_append, List.nil_append, Nat.reduceAdd, Option.toList, fit_i, ft10_4, p10_4, pk_un, pk_us, rd_up_eq, rd_up_ne, true_and, up_eq, up_ne, up_up, z0, hM.r, rd_own hM.r, hM.r, rd_own hM.r]
  generalize im_up hm m (.inr (10, fs_MO m (upd u 4 0))) = hm1 at hM1 s1 ⊢
  refine r_iv2 dX10_takes_7 M10_229 Y182 O182 (Nat.le_of_ble_eq_true rfl) (rcv_own hM1.r) (Nat.le_refl _) (Nat.le_refl _) ?_
  refine m_isStroke hM1 hn hn12 ?_
  simp only [r_if_eq (tgt := 21) dX10_takes_10 rfl, r_al0 dX10_takes_13, r_il2 dX10_takes_14, r_bipush dX10_takes_21 kbm2, r_iret dX10_takes_23 (Nat.zero_le _) (Nat.zero_le _), List.cons_append, List.nil_append, Nat.reduceAdd, Option.toList, z0]
  refine ⟨fun h => h0 (fun z => h z.1) _ hM1 s1, fun h => ?_⟩
  refine r_iv2 dX10_takes_15 M10_229 Y182 O182 (Nat.le_of_ble_eq_true rfl) (rcv_own hM1.r) (Nat.le_refl _) (Nat.le_refl _) ?_
  refine m_isStroke hM1 hn hn12 ?_
  simp only [r_if_neB (tgt := 24) dX10_takes_18 rfl, r_bipush dX10_takes_21 kbm2, r_iret dX10_takes_23 (Nat.zero_le _) (Nat.zero_le _), List.cons_append, List.nil_append, Nat.reduceAdd, Option.toList, z0]
  refine ⟨fun h' => ?_, fun h' => h0 (fun z => Classical.not_not.mp h' z.2) _ hM1 s1⟩
  obtain ⟨i, hi, rfl⟩ := ix (by omega) (Classical.not_not.mp h)
  obtain ⟨j, hj, rfl⟩ := ix (by omega) (Classical.not_not.mp h')
  have hin := vp_in_nI (show 195 + i < 217 by omega) (by omega)
  simp (disch := omega) only [E2, nI_1, nI_add, nI_leI, nI_ltI, nI_eq, nI_clamp]
  simp only [r_al0 dX10_takes_24, r_getf dX10_takes_25 F10_13, r_sipush dX10_takes_28 ks195, r_il1 dX10_takes_31, r_iadd dX10_takes_32, r_iald dX10_takes_33, r_il2 dX10_takes_34, List.cons_append, List.nil_append, Nat.reduceAdd, Option.toList, aI_ok, g10_0, z0, hM1.r, rd_own hM1.r, hM1.r0, rd_own hM1.r0, s195, nI_clamp (show 195 + i < 2 ^ 31 by omega)]
  refine ⟨hin, ?_⟩
  refine r_ist2 dX10_takes_35 M10_178 Y156 (Nat.le_of_ble_eq_true rfl) (Nat.le_refl _) (Nat.le_refl _) ?_
  refine m_has (by omega) ?_
  simp only [r_if_ne (tgt := 44) dX10_takes_38 rfl, r_bipush dX10_takes_41 kbm5, r_iret dX10_takes_43 (Nat.zero_le _) (Nat.zero_le _), r_al0 dX10_takes_44, List.cons_append, List.nil_append, Nat.reduceAdd, Option.toList, z0]
  refine ⟨fun k => ?_, fun k => h1 i j hi hj rfl rfl (Classical.not_not.mp k) _ hM1 s1⟩
  have h2 := h2 i j hi hj rfl rfl (Classical.not_not.mp k) _ rfl
  refine r_iv1 dX10_takes_45 M10_232 Y195 O195 (Nat.le_of_ble_eq_true rfl) (rcv_own hM1.r) (Nat.le_refl _) (Nat.le_refl _) ?_
  refine m_remembers hM1 (a := a) ha ha12 (fun hm2 hM2 s2 => ?_)
  have e0 : (va_up A 2 (remA (if a = 12 then shfA (A 2) 374 else A 2) (A 0) (min a 11))) 0 = A 0 := rfl
  simp (disch := first | omega | (simp only [List.length_cons, List.length_nil]; omega)) only [r_al0 dX10_takes_48, r_getf dX10_takes_49 F10_13, r_sipush dX10_takes_52 ks195, r_il1 dX10_takes_55, r_iadd dX10_takes_56, r_dup2_ir dX10_takes_57, r_dup2_l dX10_takes_57, r_iald dX10_takes_58, r_iconst dX10_takes_59 ki1, r_il2 dX10_takes_60, r_ishl dX10_takes_61, r_iconst dX10_takes_62 kim1, r_ixor dX10_takes_63, r_iand dX10_takes_64, r_iast dX10_takes_65, r_al0 dX10_takes_66, List.cons_append, List.nil_append, Nat.reduceAdd, Option.toList, aI_ok, g10_0, pk_un, pk_us, rd_up_eq, rd_up_ne, sI_ok, up_eq, up_ne, up_up, z0, hM2.r, rd_own hM2.r, hM2.r0, rd_own hM2.r0, e0, s195, nI_clamp (show 195 + i < 2 ^ 31 by omega)]
  refine ⟨hin, hin, ?_⟩
  have hM3 := hM2.w0 (upd (A 0) (195 + i) (A 0 (195 + i) &&& (sb j ^^^ (-1))))
  refine r_iv1 dX10_takes_67 M10_235 Y196 O196 (Nat.le_of_ble_eq_true rfl) (rcv_own hM3.r) (Nat.le_refl _) (Nat.le_refl _) ?_
  refine m_twos hM3 (n := n) ((pk_un (by omega)).trans hn) hn12 ?_
  simp only [r_iret dX10_takes_70 (Nat.zero_le _) (Nat.zero_le _), List.cons_append, List.nil_append, Nat.reduceAdd, Option.toList, z0]
  exact h2 _ hM3 ((s1.trans s2).up (by omega))
theorem m_weigh {x v : Int32} {a nl : Nat} (hM : MO hm m u A R) (hn : A 0 3 = nI nl) (hn10 : nl ≤ 10) (ha : u 3 = nI a) (ha12 : a ≤ 12)
    (h0 : ¬ (0 ≤ x ∧ x < nI nl) → ∀ hm', MO hm' m (upd u 4 0) A R → sm m (m + 16) hm hm' → Q (some (.int (-2))) hm' hs)
    (h1 : (0 ≤ x ∧ x < nI nl) → ¬ (1 ≤ v ∧ v ≤ 99) → ∀ hm', MO hm' m (upd u 4 0) A R → sm m (m + 16) hm hm' → Q (some (.int (-3))) hm' hs)
    (h2 : ∀ i, i < nl → x = nI i → (1 ≤ v ∧ v ≤ 99) → ∀ hm', MO hm' m (upd (upd u 4 0) 3 (nI (min a 11 + 1))) (va_up (va_up A 2 (remF A a)) 0 (upd (A 0) (207 + i) v)) R → sm m (m + 16) hm hm' → Q (some (.int (A 0 (207 + i)))) hm' hs) : CC X EV (d + 3) 200 [.ref m, .int x, .int v] hm hs Q := by
  have hM1 := hM.o (upd u 4 0)
  have s1 : sm m (m + 16) hm (im_up hm m (.inr (10, fs_MO m (upd u 4 0)))) := sm.rf.up (by omega)
  have s207 : ∀ k, (207 : Int32) + nI k = nI (207 + k) := fun k => by rw [show (207 : Int32) = nI 207 from rfl, nI_add]
  refine c_of (ls2 := [.ref m, .int x, .int v, .null]) Y200 (Nat.le_of_ble_eq_true rfl) rfl I200 ?_
  simp (disch := first | omega | (simp only [List.length_cons, List.length_nil]; omega)) only [r_al0 dX10_weigh_0, r_iconst dX10_weigh_1 ki0, r_putf dX10_weigh_2 F10_1, r_al0 dX10_weigh_5, r_il1 dX10_weigh_6, List.cons_append, List.nil_append, Nat.reduceAdd, Option.toList, fit_i, ft10_4, p10_4, pk_un, pk_us, rd_up_eq, rd_up_ne, true_and, up_eq, up_ne, up_up, z0, hM.r, rd_own hM.r, hM.r, rd_own hM.r]
  generalize im_up hm m (.inr (10, fs_MO m (upd u 4 0))) = hm1 at hM1 s1 ⊢
  refine r_iv2 dX10_weigh_7 M10_240 Y231 O231 (Nat.le_of_ble_eq_true rfl) (rcv_own hM1.r) (Nat.le_refl _) (Nat.le_refl _) ?_
  refine m_isLetterAt hM1 hn (by omega) ?_
  simp only [r_if_ne (tgt := 16) dX10_weigh_10 rfl, r_bipush dX10_weigh_13 kbm2, r_iret dX10_weigh_15 (Nat.zero_le _) (Nat.zero_le _), r_il2 dX10_weigh_16, r_i2l dX10_weigh_17, r_lconst dX10_weigh_18 kl1, r_ldc2 dX10_weigh_19 K10_243, List.cons_append, List.nil_append, Nat.reduceAdd, Option.toList, z0]
  refine ⟨fun h => ?_, fun h => h0 (Classical.not_not.mp h) _ hM1 s1⟩
  have h := Classical.not_not.mp h
  refine r_ist3 dX10_weigh_22 M10_83 Y155 (Nat.le_of_ble_eq_true rfl) (Nat.le_refl _) (Nat.le_refl _) ?_
  rw [show (1 : Int64) = (1 : Int32).toInt64 from rfl, show (99 : Int64) = (99 : Int32).toInt64 from rfl]
  refine m_in ?_
  simp only [r_if_ne (tgt := 31) dX10_weigh_25 rfl, r_bipush dX10_weigh_28 kbm3, r_iret dX10_weigh_30 (Nat.zero_le _) (Nat.zero_le _), r_al0 dX10_weigh_31, List.cons_append, List.nil_append, Nat.reduceAdd, Option.toList, z0]
  refine ⟨fun k => ?_, fun k => h1 h (Classical.not_not.mp k) _ hM1 s1⟩
  obtain ⟨i, hi, rfl⟩ := ix (by omega) h
  have h2 := h2 i hi rfl (Classical.not_not.mp k)
  have hin := vp_in_nI (show 207 + i < 217 by omega) (by omega)
  refine r_iv1 dX10_weigh_32 M10_232 Y195 O195 (Nat.le_of_ble_eq_true rfl) (rcv_own hM1.r) (Nat.le_refl _) (Nat.le_refl _) ?_
  refine m_remembers hM1 (a := a) ha ha12 (fun hm2 hM2 s2 => ?_)
  have e0 : (va_up A 2 (remA (if a = 12 then shfA (A 2) 374 else A 2) (A 0) (min a 11))) 0 = A 0 := rfl
  simp (disch := first | omega | (simp only [List.length_cons, List.length_nil]; omega)) only [r_al0 dX10_weigh_35, r_getf dX10_weigh_36 F10_13, r_sipush dX10_weigh_39 ks207, r_il1 dX10_weigh_42, r_iadd dX10_weigh_43, r_iald dX10_weigh_44, r_is3 dX10_weigh_45, r_al0 dX10_weigh_46, r_getf dX10_weigh_47 F10_13, r_sipush dX10_weigh_50 ks207, r_il1 dX10_weigh_53, r_iadd dX10_weigh_54, r_il2 dX10_weigh_55, r_iast dX10_weigh_56, r_il3 dX10_weigh_57, r_iret dX10_weigh_58 (Nat.zero_le _) (Nat.zero_le _), List.cons_append, List.nil_append, Nat.reduceAdd, Option.toList, aI_ok, cat_f, cat_i, cat_n, cat_r, eq_self, g10_0, pk_un, pk_us, rd_up_eq, rd_up_ne, sI_ok, true_and, up_eq, up_ne, up_up, z0, hM2.r, rd_own hM2.r, hM2.r0, rd_own hM2.r0, e0, s207, nI_clamp (show 207 + i < 2 ^ 31 by omega)]
  refine ⟨hin, hin, ?_⟩
  exact h2 _ (hM2.w0 (upd (A 0) (207 + i) v)) ((s1.trans s2).up (by omega))
theorem m_undo {a : Nat} (hM : MO hm m u A R) (ha : u 3 = nI a) (ha12 : a ≤ 12)
    (h0 : a = 0 → ∀ hm', MO hm' m (upd u 4 0) A R → sm m (m + 16) hm hm' → Q (some (.int (-5))) hm' hs)
    (h1 : a ≠ 0 → ∀ hm', MO hm' m (upd (upd u 4 0) 3 (nI (a - 1))) (va_up A 0 (fun j => if 183 ≤ j ∧ j < 183 + 34 then A 2 (34 * (a - 1) + (j - 183)) else A 0 j)) R → sm m (m + 16) hm hm' → Q (some (.int (nI (a - 1)))) hm' hs) : CC X EV (d + 1) 201 [.ref m] hm hs Q := by
  refine c_of (ls2 := [.ref m, .null]) Y201 (Nat.le_of_ble_eq_true rfl) rfl I201 ?_
  simp (disch := first | omega | (simp only [List.length_cons, List.length_nil]; omega)) only [r_al0 dX10_undo_0, r_iconst dX10_undo_1 ki0, r_putf dX10_undo_2 F10_1, r_al0 dX10_undo_5, r_getf dX10_undo_6 F10_193, r_if_ne (tgt := 15) dX10_undo_9 rfl, r_bipush dX10_undo_12 kbm5, r_iret dX10_undo_14 (Nat.zero_le _) (Nat.zero_le _), r_al0 dX10_undo_15, r_dup_i dX10_undo_16, r_dup_r dX10_undo_16, r_getf dX10_undo_17 F10_193, r_iconst dX10_undo_20 ki1, r_isub dX10_undo_21, r_putf dX10_undo_22 F10_193, r_iconst dX10_undo_25 ki0, r_is1 dX10_undo_26, List.cons_append, List.nil_append, Nat.reduceAdd, Option.toList, cat_f, cat_i, cat_n, cat_r, eq_self, fit_i, ft10_3, ft10_4, g10_3, p10_3, p10_4, pk_un, pk_us, rd_up_eq, rd_up_ne, true_and, up_eq, up_ne, up_up, z0, hM.r, rd_own hM.r, hM.r, rd_own hM.r, ha]
  refine ⟨fun h => ?_, fun h => h0 ((nI_eq (show a < 2 ^ 31 by omega) (show 0 < 2 ^ 31 by omega)).mp (Classical.not_not.mp h)) _ (hM.o _) (sm.rf.up (by omega))⟩
  have hne : a ≠ 0 := fun e => h (by rw [e]; rfl)
  have h1 := h1 hne
  have ep : nI a - 1 = nI (a - 1) := by rw [show (1 : Int32) = nI 1 from rfl, nI_sub (by omega)]
  rw [ep]
  suffices H : ∀ k, k ≤ 34 → ∀ hm2 G, MO hm2 m (upd (upd u 4 0) 3 (nI (a - 1))) (va_up A 0 G) R → (∀ j, G j = if 183 ≤ j ∧ j < 183 + k then A 2 (34 * (a - 1) + (j - 183)) else A 0 j) → sm m (m + 16) hm hm2 → E1 X EV d 10 0 0 (some .int) false cX10_undo Q 27 [.ref m, .int (nI k)] [] 0 0 hm2 hs from
    H 0 (by omega) _ (A 0) (by rw [va_self]; exact hM.o _) (fun j => by rw [if_neg (by omega)]) (sm.rf.up (by omega))
  have e3 : (upd (upd u 4 0) 3 (nI (a - 1))) 3 = nI (a - 1) := pk_us
  refine up_loop 34 _ ?_ ?_
  · intro hm2 G hM2 hG s2
    have eG : G = fun j => if 183 ≤ j ∧ j < 183 + 34 then A 2 (34 * (a - 1) + (j - 183)) else A 0 j := funext hG
    rw [eG] at hM2
    simp (disch := first | omega | (simp only [List.length_cons, List.length_nil]; omega)) only [r_il1 dX10_undo_27, r_bipush dX10_undo_28 kb34, r_ic_ge (tgt := 63) dX10_undo_30 rfl, r_al0 dX10_undo_33, r_getf dX10_undo_34 F10_13, r_sipush dX10_undo_37 ks183, r_il1 dX10_undo_40, r_iadd dX10_undo_41, r_al0 dX10_undo_42, r_getf dX10_undo_43 F10_20, r_bipush dX10_undo_46 kb34, r_al0 dX10_undo_48, r_getf dX10_undo_49 F10_193, r_imul dX10_undo_52, r_il1 dX10_undo_53, r_iadd dX10_undo_54, r_iald dX10_undo_55, r_iast dX10_undo_56, r_ii1 dX10_undo_57 kn1, r_gotoB (tgt := 27) dX10_undo_60 rfl, r_al0 dX10_undo_63, r_getf dX10_undo_64 F10_193, r_iret dX10_undo_67 (Nat.zero_le _) (Nat.zero_le _), List.cons_append, List.nil_append, Nat.reduceAdd, Option.toList, aI_ok, cat_f, cat_i, cat_n, cat_r, eq_self, g10_0, g10_2, g10_3, pk_un, pk_us, rd_up_eq, rd_up_ne, sI_ok, true_and, up_eq, up_ne, up_up, z0, hM2.r, rd_own hM2.r, hM2.r, rd_own hM2.r, e3]
    exact ⟨fun _ => h1 hm2 hM2 s2, fun h => absurd (by decide) h⟩
  · intro k hk ih hm2 G hM2 hG s2
    have e0 : (va_up A 0 G) 0 = G := vu_eq _ _ _
    have e22 : (va_up A 0 G) 2 = A 2 := rfl
    simp (disch := first | omega | (simp only [List.length_cons, List.length_nil]; omega)) only [r_il1 dX10_undo_27, r_bipush dX10_undo_28 kb34, r_ic_ge (tgt := 63) dX10_undo_30 rfl, r_al0 dX10_undo_33, r_getf dX10_undo_34 F10_13, r_sipush dX10_undo_37 ks183, r_il1 dX10_undo_40, r_iadd dX10_undo_41, r_al0 dX10_undo_42, r_getf dX10_undo_43 F10_20, r_bipush dX10_undo_46 kb34, r_al0 dX10_undo_48, r_getf dX10_undo_49 F10_193, r_imul dX10_undo_52, r_il1 dX10_undo_53, r_iadd dX10_undo_54, r_iald dX10_undo_55, r_iast dX10_undo_56, r_ii1 dX10_undo_57 kn1, r_gotoB (tgt := 27) dX10_undo_60 rfl, r_al0 dX10_undo_63, r_getf dX10_undo_64 F10_193, r_iret dX10_undo_67 (Nat.zero_le _) (Nat.zero_le _), List.cons_append, List.nil_append, Nat.reduceAdd, Option.toList, aI_ok, cat_f, cat_i, cat_n, cat_r, eq_self, g10_0, g10_2, g10_3, pk_un, pk_us, rd_up_eq, rd_up_ne, sI_ok, true_and, up_eq, up_ne, up_up, z0, hM2.r, rd_own hM2.r, hM2.r0, rd_own hM2.r0, hM2.r2, rd_own hM2.r2, e0, e22, e3, s34, s183, nI_clamp (show 183 + k < 2 ^ 31 by omega), nI_clamp (show 34 * (a - 1) + k < 2 ^ 31 by omega)]
    refine ⟨fun h => absurd ((nI_leI (a := 34) (by omega) (by omega)).mp h) (by omega), fun _ => ⟨vp_in_nI (by omega) (by omega), vp_in_nI (by omega) (by omega), ?_⟩⟩
    simp (disch := omega) only [E2, nI_1, nI_add, nI_leI, nI_ltI, nI_eq, nI_clamp]
    have h4 := hM2.w0 (upd G (183 + k) (A 2 (34 * (a - 1) + k)))
    rw [va_va] at h4
    refine ih _ _ h4 (fun j => ?_) (s2.up (by omega))
    by_cases hj : j = 183 + k
    · rw [hj, pk_us, if_pos (by omega), show 183 + k - 183 = k by omega]
    · rw [pk_un hj, hG j]
      by_cases h5 : 183 ≤ j ∧ j < 183 + k
      · rw [if_pos h5, if_pos (by omega)]
      · rw [if_neg h5, if_neg (by omega)]
end M6
