section M11
variable {X : HM} {EV : Nat → Value} {d : Nat} {hm : HM} {hs : Nat} {Q : QT} {m n : Nat} {u : Nat → Int32} {A : Nat → Nat → Int32} {R : Nat → Int64}
theorem s12 {a k : Nat} : (12 : Int32) * nI a + nI k = nI (12 * a + k) := by rw [show (12 : Int32) = nI 12 from rfl, pk_mul, nI_add]
theorem m_row {r so z : Int32} (hM : MO hm m u A R)
    (h0 : ¬ (0 ≤ r ∧ r < 4) → ∀ hm', MO hm' m (upd u 4 0) A R → sm m (m + 16) hm hm' → Q (some (.int (-2))) hm' hs)
    (h1 : (0 ≤ r ∧ r < 4) → ¬ ((0 ≤ so ∧ so ≤ 1) ∧ (0 ≤ z ∧ z ≤ 12)) → ∀ hm', MO hm' m (upd u 4 0) A R → sm m (m + 16) hm hm' → Q (some (.int (-3))) hm' hs)
    (h2 : ∀ i zz, i < 4 → zz ≤ 12 → r = nI i → z = nI zz → (0 ≤ so ∧ so ≤ 1) → ∀ hm' G, MO hm' m (upd u 4 0) (va_up (va_up (va_up A 24 (upd (A 24) i z)) 25 (upd (A 25) i so)) 26 G) R → (∀ j, G j = if 12 * i ≤ j ∧ j < 12 * i + zz then 0 else A 26 j) → sm m (m + 16) hm hm' → Q (some (.int 0)) hm' hs) : CC X EV (d + 3) 254 [.ref m, .int r, .int so, .int z] hm hs Q := by
  have hM1 := hM.o (upd u 4 0)
  have s1 : sm m (m + 16) hm (im_up hm m (.inr (10, fs_MO m (upd u 4 0)))) := sm.rf.up (by omega)
  refine c_of (ls2 := [.ref m, .int r, .int so, .int z, .null]) Y254 (Nat.le_of_ble_eq_true rfl) rfl I254 ?_
  simp (disch := first | omega | (simp only [List.length_cons, List.length_nil]; omega)) only [r_al0 dX10_row_0, r_iconst dX10_row_1 ki0, r_putf dX10_row_2 F10_1, r_il1 dX10_row_5, List.cons_append, List.nil_append, Nat.reduceAdd, Option.toList, fit_i, ft10_4, p10_4, pk_un, pk_us, rd_up_eq, rd_up_ne, true_and, up_eq, up_ne, up_up, z0, hM.r, rd_own hM.r, hM.r, rd_own hM.r]
  generalize im_up hm m (.inr (10, fs_MO m (upd u 4 0))) = hm1 at hM1 s1 ⊢
  refine r_ist1 dX10_row_6 M10_344 Y253 (Nat.le_of_ble_eq_true rfl) (Nat.le_refl _) (Nat.le_refl _) ?_
  refine m_isRowAt ?_
  simp only [r_if_ne (tgt := 15) dX10_row_9 rfl, r_bipush dX10_row_12 kbm2, r_iret dX10_row_14 (Nat.zero_le _) (Nat.zero_le _), r_il2 dX10_row_15, r_i2l dX10_row_16, r_lconst dX10_row_17 kl0, r_lconst dX10_row_18 kl1, List.cons_append, List.nil_append, Nat.reduceAdd, Option.toList, z0]
  refine ⟨fun h => ?_, fun h => h0 (Classical.not_not.mp h) _ hM1 s1⟩
  have h := Classical.not_not.mp h
  refine r_ist3 dX10_row_19 M10_83 Y155 (Nat.le_of_ble_eq_true rfl) (Nat.le_refl _) (Nat.le_refl _) ?_
  rw [l0_, show (1 : Int64) = (1 : Int32).toInt64 from rfl]
  refine m_in ?_
  simp only [r_if_eq (tgt := 37) dX10_row_22 rfl, r_il3 dX10_row_25, r_i2l dX10_row_26, r_lconst dX10_row_27 kl0, r_ldc2 dX10_row_28 K10_347, r_bipush dX10_row_37 kbm3, r_iret dX10_row_39 (Nat.zero_le _) (Nat.zero_le _), List.cons_append, List.nil_append, Nat.reduceAdd, Option.toList, z0]
  refine ⟨fun k => h1 h (fun q => k q.1) _ hM1 s1, fun k => ?_⟩
  refine r_ist3 dX10_row_31 M10_83 Y155 (Nat.le_of_ble_eq_true rfl) (Nat.le_refl _) (Nat.le_refl _) ?_
  rw [l0_, show (12 : Int64) = (12 : Int32).toInt64 from rfl]
  refine m_in ?_
  simp only [r_if_neB (tgt := 40) dX10_row_34 rfl, r_bipush dX10_row_37 kbm3, r_iret dX10_row_39 (Nat.zero_le _) (Nat.zero_le _), List.cons_append, List.nil_append, Nat.reduceAdd, Option.toList, z0]
  refine ⟨fun k2 => ?_, fun k2 => h1 h (fun q => Classical.not_not.mp k2 q.2) _ hM1 s1⟩
  obtain ⟨i, hi, rfl⟩ := in4 h
  have k2 := Classical.not_not.mp k2
  obtain ⟨zz, hzz, rfl⟩ := ixle (n := 12) (by omega) k2.1 k2.2
  have h2 := h2 i zz hi hzz rfl rfl (Classical.not_not.mp k)
  simp (disch := omega) only [E2, nI_1, nI_add, nI_leI, nI_ltI, nI_eq, nI_clamp]
  simp (disch := first | omega | (simp only [List.length_cons, List.length_nil]; omega)) only [r_al0 dX10_row_40, r_getf dX10_row_41 F10_49, r_il1 dX10_row_44, r_il3 dX10_row_45, r_iast dX10_row_46, r_al0 dX10_row_47, r_getf dX10_row_48 F10_52, r_il1 dX10_row_51, r_il2 dX10_row_52, r_iast dX10_row_53, r_iconst dX10_row_54 ki0, r_is4 dX10_row_55, List.cons_append, List.nil_append, Nat.reduceAdd, Option.toList, cat_f, cat_i, cat_n, cat_r, eq_self, g10_24, g10_25, pk_un, pk_us, rd_up_eq, rd_up_ne, sI_ok, true_and, up_eq, up_ne, up_up, z0, hM1.r, rd_own hM1.r, hM1.r24, rd_own hM1.r24, hM1.r25, rd_own hM1.r25, nI_clamp (show i < 2 ^ 31 by omega)]
  refine ⟨vp_in_nI (by omega) (by omega), vp_in_nI (by omega) (by omega), ?_⟩
  have hM2 := (hM1.w24 (upd (A 24) i (nI zz))).w25 (upd (A 25) i so)
  suffices H : ∀ k, k ≤ zz → ∀ hm2 G, MO hm2 m (upd u 4 0) (va_up (va_up (va_up A 24 (upd (A 24) i (nI zz))) 25 (upd (A 25) i so)) 26 G) R → (∀ j, G j = if 12 * i ≤ j ∧ j < 12 * i + k then 0 else A 26 j) → sm m (m + 16) hm hm2 → E1 X EV (d + 2) 10 0 0 (some .int) false cX10_row Q 57 [.ref m, .int (nI i), .int so, .int (nI zz), .int (nI k)] [] 0 0 hm2 hs from
    H 0 (by omega) _ (A 26) (by have e : va_up (va_up (va_up A 24 (upd (A 24) i (nI zz))) 25 (upd (A 25) i so)) 26 (A 26) = va_up (va_up A 24 (upd (A 24) i (nI zz))) 25 (upd (A 25) i so) := va_self (va_up (va_up A 24 (upd (A 24) i (nI zz))) 25 (upd (A 25) i so)) 26
                                rw [e]; exact hM2) (fun j => by rw [if_neg (by omega)]) ((s1.up (by omega)).up (by omega))
  refine up_loop zz _ ?_ ?_
  · intro hm2 G hM3 hG s3
    simp (disch := first | omega | (simp only [List.length_cons, List.length_nil]; omega)) only [r_il4 dX10_row_57, r_il3 dX10_row_59, r_ic_ge (tgt := 82) dX10_row_60 rfl, r_al0 dX10_row_63, r_getf dX10_row_64 F10_55, r_bipush dX10_row_67 kb12, r_il1 dX10_row_69, r_imul dX10_row_70, r_il4 dX10_row_71, r_iadd dX10_row_73, r_iconst dX10_row_74 ki0, r_iast dX10_row_75, r_ii4 dX10_row_76 kn1, r_gotoB (tgt := 57) dX10_row_79 rfl, r_iconst dX10_row_82 ki0, r_iret dX10_row_83 (Nat.zero_le _) (Nat.zero_le _), List.cons_append, List.nil_append, Nat.reduceAdd, Option.toList, cat_f, cat_i, cat_n, cat_r, eq_self, g10_26, pk_un, pk_us, rd_up_eq, rd_up_ne, sI_ok, true_and, up_eq, up_ne, up_up, z0]
    exact ⟨fun _ => h2 hm2 G hM3 hG s3, fun h => absurd (Int32.le_refl _) h⟩
  · intro k hk ih hm2 G hM3 hG s3
    have e26 : (va_up (va_up (va_up A 24 (upd (A 24) i (nI zz))) 25 (upd (A 25) i so)) 26 G) 26 = G := vu_eq _ _ _
    simp (disch := first | omega | (simp only [List.length_cons, List.length_nil]; omega)) only [r_il4 dX10_row_57, r_il3 dX10_row_59, r_ic_ge (tgt := 82) dX10_row_60 rfl, r_al0 dX10_row_63, r_getf dX10_row_64 F10_55, r_bipush dX10_row_67 kb12, r_il1 dX10_row_69, r_imul dX10_row_70, r_il4 dX10_row_71, r_iadd dX10_row_73, r_iconst dX10_row_74 ki0, r_iast dX10_row_75, r_ii4 dX10_row_76 kn1, r_gotoB (tgt := 57) dX10_row_79 rfl, r_iconst dX10_row_82 ki0, r_iret dX10_row_83 (Nat.zero_le _) (Nat.zero_le _), List.cons_append, List.nil_append, Nat.reduceAdd, Option.toList, cat_f, cat_i, cat_n, cat_r, eq_self, g10_26, pk_un, pk_us, rd_up_eq, rd_up_ne, sI_ok, true_and, up_eq, up_ne, up_up, z0, hM3.r, rd_own hM3.r, hM3.r26, rd_own hM3.r26, e26, s12, nI_clamp (show 12 * i + k < 2 ^ 31 by omega)]
    simp (disch := omega) only [E2, nI_1, nI_add, nI_leI, nI_ltI, nI_eq, nI_clamp]
    refine ⟨fun h => absurd h (by omega), fun _ => ⟨vp_in_nI (by omega) (by omega), ?_⟩⟩
    have h4 := hM3.w26 (upd G (12 * i + k) 0)
    rw [va_va] at h4
    refine ih _ _ h4 (fun j => ?_) (s3.up (by omega))
    by_cases hj : j = 12 * i + k
    · rw [hj, pk_us, if_pos (by omega)]
    · rw [pk_un hj, hG j]
      by_cases h5 : 12 * i ≤ j ∧ j < 12 * i + k
      · rw [if_pos h5, if_pos (by omega)]
      · rw [if_neg h5, if_neg (by omega)]
end M11
