theorem va_back {A : Nat → Nat → Int32} {S o f : Nat → Int32} : va_up (va_up (va_up (va_up A 0 S) 13 o) 14 f) 0 (A 0) = va_up (va_up A 13 o) 14 f := by
  funext s
  by_cases h0 : s = 0
  · rw [h0, vu_eq]; rfl
  · rw [vu_ne h0]
    by_cases h14 : s = 14
    · rw [h14, vu_eq, vu_eq]
    · rw [vu_ne h14, vu_ne h14]
      by_cases h13 : s = 13
      · rw [h13, vu_eq, vu_eq]
      · rw [vu_ne h13, vu_ne h13, vu_ne h0]
section M9
variable {X : HM} {EV : Nat → Value} {d : Nat} {hm : HM} {hs : Nat} {Q : QT} {m n : Nat} {u : Nat → Int32} {A : Nat → Nat → Int32} {R : Nat → Int64}
theorem m_hand {x v : Int32} {a : Nat} (hM : MO hm m u A R) (hn : A 0 2 = nI n) (hn12 : n ≤ 12) (ha : u 3 = nI a) (ha12 : a ≤ 12)
    (h0 : ¬ (0 ≤ x ∧ x < nI n) → ∀ hm', MO hm' m (upd u 4 0) A R → sm m (m + 16) hm hm' → Q (some (.int (-2))) hm' hs)
    (h1 : (0 ≤ x ∧ x < nI n) → ¬ (-1 ≤ v ∧ v ≤ 1) → ∀ hm', MO hm' m (upd u 4 0) A R → sm m (m + 16) hm hm' → Q (some (.int (-3))) hm' hs)
    (h2 : ∀ i, i < n → x = nI i → (-1 ≤ v ∧ v ≤ 1) → ∀ S o, S = upd (A 0) (183 + i) (v + 1) → o = clo S (A 13) n → ∀ hm' f, sm m (m + 16) hm hm' →
      (nI (wyN S o n) = 0 → MO hm' m (upd (upd u 4 0) 15 (nI (wyN S o n))) (va_up (va_up A 13 o) 14 f) R → Q (some (.int (-9))) hm' hs) ∧
      (¬ nI (wyN S o n) = 0 → MO hm' m (upd (upd (upd u 4 0) 15 (nI (wyN S o n))) 3 (nI (min a 11 + 1))) (va_up (va_up (va_up (va_up A 13 o) 14 f) 2 (remF A a)) 0 S) R → Q (some (.int (A 0 (183 + i)))) hm' hs)) : CC X EV (d + 4) 199 [.ref m, .int x, .int v] hm hs Q := by
  have hM1 := hM.o (upd u 4 0)
  have s1 : sm m (m + 16) hm (im_up hm m (.inr (10, fs_MO m (upd u 4 0)))) := sm.rf.up (by omega)
  refine c_of (ls2 := [.ref m, .int x, .int v, .null]) Y199 (Nat.le_of_ble_eq_true rfl) rfl I199 ?_
  simp (disch := first | omega | (simp only [List.length_cons, List.length_nil]; omega)) only [r_al0 dX10_hand_0, r_iconst dX10_hand_1 ki0, r_putf dX10_hand_2 F10_1, r_al0 dX10_hand_5, r_il1 dX10_hand_6, List.cons_append, List.nil_append, Nat.reduceAdd, Option.toList, fit_i, ft10_4, p10_4, pk_un, pk_us, rd_up_eq, rd_up_ne, true_and, up_eq, up_ne, up_up, z0, hM.r, rd_own hM.r, hM.r, rd_own hM.r]
  generalize im_up hm m (.inr (10, fs_MO m (upd u 4 0))) = hm1 at hM1 s1 ⊢
  refine r_iv2 dX10_hand_7 M10_229 Y182 O182 (Nat.le_of_ble_eq_true rfl) (rcv_own hM1.r) (Nat.le_refl _) (Nat.le_refl _) ?_
  refine m_isStroke hM1 hn hn12 ?_
  simp only [r_if_ne (tgt := 16) dX10_hand_10 rfl, r_bipush dX10_hand_13 kbm2, r_iret dX10_hand_15 (Nat.zero_le _) (Nat.zero_le _), r_il2 dX10_hand_16, r_i2l dX10_hand_17, r_ldc2 dX10_hand_18 K10_238, r_lconst dX10_hand_21 kl1, List.cons_append, List.nil_append, Nat.reduceAdd, Option.toList, z0]
  refine ⟨fun h => ?_, fun h => h0 (Classical.not_not.mp h) _ hM1 s1⟩
  have h := Classical.not_not.mp h
  refine r_ist3 dX10_hand_22 M10_83 Y155 (Nat.le_of_ble_eq_true rfl) (Nat.le_refl _) (Nat.le_refl _) ?_
  rw [show (-1 : Int64) = (-1 : Int32).toInt64 from rfl, show (1 : Int64) = (1 : Int32).toInt64 from rfl]
  refine m_in ?_
  simp only [r_if_neB (tgt := 31) dX10_hand_25 rfl, r_bipush dX10_hand_28 kbm3, r_iret dX10_hand_30 (Nat.zero_le _) (Nat.zero_le _), List.cons_append, List.nil_append, Nat.reduceAdd, Option.toList, z0]
  refine ⟨fun k => ?_, fun k => h1 h (Classical.not_not.mp k) _ hM1 s1⟩
  obtain ⟨i, hi, rfl⟩ := ix (by omega) h
  have h2 := h2 i hi rfl (Classical.not_not.mp k) _ _ rfl rfl
  have hin := vp_in_nI (show 183 + i < 217 by omega) (by omega)
  simp (disch := omega) only [E2, nI_1, nI_add, nI_leI, nI_ltI, nI_eq, nI_clamp]
  simp (disch := first | omega | (simp only [List.length_cons, List.length_nil]; omega)) only [r_al0 dX10_hand_31, r_getf dX10_hand_32 F10_13, r_sipush dX10_hand_35 ks183, r_il1 dX10_hand_38, r_iadd dX10_hand_39, r_iald dX10_hand_40, r_is3 dX10_hand_41, r_al0 dX10_hand_42, r_getf dX10_hand_43 F10_13, r_sipush dX10_hand_46 ks183, r_il1 dX10_hand_49, r_iadd dX10_hand_50, r_il2 dX10_hand_51, r_iconst dX10_hand_52 ki1, r_iadd dX10_hand_53, r_iast dX10_hand_54, r_al0 dX10_hand_55, List.cons_append, List.nil_append, Nat.reduceAdd, Option.toList, aI_ok, cat_f, cat_i, cat_n, cat_r, eq_self, g10_0, pk_un, pk_us, rd_up_eq, rd_up_ne, sI_ok, true_and, up_eq, up_ne, up_up, z0, hM1.r, rd_own hM1.r, hM1.r0, rd_own hM1.r0, s183, nI_clamp (show 183 + i < 2 ^ 31 by omega)]
  refine ⟨hin, hin, ?_⟩
  have hM2 := hM1.w0 (upd (A 0) (183 + i) (v + 1))
  have s2 := s1.up (a := m + 1) (c := ia 217 (upd (A 0) (183 + i) (v + 1))) (by omega)
  refine r_iv1 dX10_hand_56 M10_221 Y191 O191 (Nat.le_of_ble_eq_true rfl) (rcv_own hM2.r) (Nat.le_refl _) (Nat.le_refl _) ?_
  refine m_lays hM2 (n := n) ((pk_un (by omega)).trans hn) hn12 (fun hm3 f hM3 g1 s3 => ?_)
  have eS : (va_up A 0 (upd (A 0) (183 + i) (v + 1))) 0 = upd (A 0) (183 + i) (v + 1) := vu_eq _ _ _
  have e13 : (va_up A 0 (upd (A 0) (183 + i) (v + 1))) 13 = A 13 := rfl
  rw [eS, e13] at hM3
  have eu : (upd (upd u 4 0) 15 (nI (wyN (upd (A 0) (183 + i) (v + 1)) (clo (upd (A 0) (183 + i) (v + 1)) (A 13) n) n))) 15 = nI (wyN (upd (A 0) (183 + i) (v + 1)) (clo (upd (A 0) (183 + i) (v + 1)) (A 13) n) n) := pk_us
  have e3 : (upd (upd u 4 0) 15 (nI (wyN (upd (A 0) (183 + i) (v + 1)) (clo (upd (A 0) (183 + i) (v + 1)) (A 13) n) n))) 3 = nI a := by rw [pk_un (by decide), pk_un (by decide)]; exact ha
  have eup : upd (upd (A 0) (183 + i) (v + 1)) (183 + i) (A 0 (183 + i)) = A 0 := by funext j; unfold upd; grind
  have e00 : ∀ o f, (va_up (va_up (va_up A 0 (upd (A 0) (183 + i) (v + 1))) 13 o) 14 f) 0 = upd (A 0) (183 + i) (v + 1) := fun o f => rfl
  generalize clo (upd (A 0) (183 + i) (v + 1)) (A 13) n = o at hM3 h2 eu e3 ⊢
  generalize wyN (upd (A 0) (183 + i) (v + 1)) o n = wn at hM3 h2 eu e3 ⊢
  have hM4 := hM3.w0 (A 0)
  rw [va_back] at hM4
  have s4 := (s2.trans s3).up (a := m + 1) (c := ia 217 (A 0)) (by omega)
  simp (disch := first | omega | (simp only [List.length_cons, List.length_nil]; omega)) only [r_al0 dX10_hand_59, r_getf dX10_hand_60 F10_13, r_sipush dX10_hand_63 ks183, r_il1 dX10_hand_66, r_iadd dX10_hand_67, r_il3 dX10_hand_68, r_iast dX10_hand_69, r_al0 dX10_hand_70, r_getf dX10_hand_71 F10_212, r_if_ne (tgt := 80) dX10_hand_74 rfl, r_bipush dX10_hand_77 kbm9, r_iret dX10_hand_79 (Nat.zero_le _) (Nat.zero_le _), r_al0 dX10_hand_80, List.cons_append, List.nil_append, Nat.reduceAdd, Option.toList, g10_0, g10_15, pk_un, pk_us, rd_up_eq, rd_up_ne, sI_ok, up_eq, up_ne, up_up, z0, hM3.r, rd_own hM3.r, hM3.r0, rd_own hM3.r0, e00, s183, nI_clamp (show 183 + i < 2 ^ 31 by omega), eup, eu]
  refine ⟨hin, fun w => ?_, fun w => (h2 _ f s4).1 (Classical.not_not.mp w) hM4⟩
  refine r_iv1 dX10_hand_81 M10_232 Y195 O195 (Nat.le_of_ble_eq_true rfl) (rcv_own hM4.r) (Nat.le_refl _) (Nat.le_refl _) ?_
  refine m_remembers hM4 (a := a) e3 ha12 (fun hm5 hM5 s5 => ?_)
  have e55 : ∀ g, (va_up (va_up (va_up A 13 o) 14 f) 2 g) 0 = A 0 := fun g => rfl
  simp (disch := first | omega | (simp only [List.length_cons, List.length_nil]; omega)) only [r_al0 dX10_hand_84, r_getf dX10_hand_85 F10_13, r_sipush dX10_hand_88 ks183, r_il1 dX10_hand_91, r_iadd dX10_hand_92, r_il2 dX10_hand_93, r_iconst dX10_hand_94 ki1, r_iadd dX10_hand_95, r_iast dX10_hand_96, r_il3 dX10_hand_97, r_iret dX10_hand_98 (Nat.zero_le _) (Nat.zero_le _), List.cons_append, List.nil_append, Nat.reduceAdd, Option.toList, g10_0, pk_un, pk_us, rd_up_eq, rd_up_ne, sI_ok, up_eq, up_ne, up_up, z0, hM5.r, rd_own hM5.r, hM5.r0, rd_own hM5.r0, e55, s183, nI_clamp (show 183 + i < 2 ^ 31 by omega)]
  refine ⟨hin, ?_⟩
  exact (h2 _ f ((s4.trans s5).up (by omega))).2 w (hM5.w0 (upd (A 0) (183 + i) (v + 1)))
end M9
