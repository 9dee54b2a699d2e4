section M12
variable {X : HM} {EV : Nat → Value} {d : Nat} {hm : HM} {hs : Nat} {Q : QT} {m n : Nat} {u : Nat → Int32} {A : Nat → Nat → Int32} {R : Nat → Int64}
theorem m_write {r q v : Int32} (hM : MO hm m u A R) (hz : ∀ i, i < 4 → A 24 i = -1 ∨ ∃ z, z ≤ 12 ∧ A 24 i = nI z)
    (h0 : ¬ (0 ≤ r ∧ r < 4) → ∀ hm', MO hm' m (upd u 4 0) A R → sm m (m + 16) hm hm' → Q (some (.int (-2))) hm' hs)
    (h1 : ∀ i, i < 4 → r = nI i → A 24 i = -1 → ∀ hm', MO hm' m (upd u 4 0) A R → sm m (m + 16) hm hm' → Q (some (.int (-6))) hm' hs)
    (h2 : ∀ i z, i < 4 → z ≤ 12 → r = nI i → A 24 i = nI z → ¬ (0 ≤ q ∧ q < nI z) → ∀ hm', MO hm' m (upd u 4 0) A R → sm m (m + 16) hm hm' → Q (some (.int (-7))) hm' hs)
    (h3 : ∀ i z j, i < 4 → z ≤ 12 → j < z → r = nI i → A 24 i = nI z → q = nI j → ∀ x, x = (if A 25 i = 0 then v.toInt16.toInt32 else v) → ∀ hm', MO hm' m (upd u 4 0) (va_up A 26 (upd (A 26) (12 * i + j) x)) R → sm m (m + 16) hm hm' → Q (some (.int x)) hm' hs) : CC X EV (d + 3) 255 [.ref m, .int r, .int q, .int v] hm hs Q := by
  have hM1 := hM.o (upd u 4 0)
  have s1 : sm m (m + 16) hm (im_up hm m (.inr (10, fs_MO m (upd u 4 0)))) := sm.rf.up (by omega)
  refine c_of (ls2 := [.ref m, .int r, .int q, .int v]) Y255 (Nat.le_of_ble_eq_true rfl) rfl I255 ?_
  simp (disch := first | omega | (simp only [List.length_cons, List.length_nil]; omega)) only [r_al0 dX10_write_0, r_iconst dX10_write_1 ki0, r_putf dX10_write_2 F10_1, r_il1 dX10_write_5, List.cons_append, List.nil_append, Nat.reduceAdd, Option.toList, fit_i, ft10_4, p10_4, pk_un, pk_us, rd_up_eq, rd_up_ne, true_and, up_eq, up_ne, up_up, z0, hM.r, rd_own hM.r, hM.r, rd_own hM.r]
  generalize im_up hm m (.inr (10, fs_MO m (upd u 4 0))) = hm1 at hM1 s1 ⊢
  refine r_ist1 dX10_write_6 M10_344 Y253 (Nat.le_of_ble_eq_true rfl) (Nat.le_refl _) (Nat.le_refl _) ?_
  refine m_isRowAt ?_
  simp only [r_if_neB (tgt := 15) dX10_write_9 rfl, r_bipush dX10_write_12 kbm2, r_iret dX10_write_14 (Nat.zero_le _) (Nat.zero_le _), List.cons_append, List.nil_append, Nat.reduceAdd, Option.toList, z0]
  refine ⟨fun h => ?_, fun h => h0 (Classical.not_not.mp h) _ hM1 s1⟩
  obtain ⟨i, hi, rfl⟩ := in4 (Classical.not_not.mp h)
  have hin := vp_in_nI hi (by omega)
  simp (disch := omega) only [E2, nI_1, nI_add, nI_leI, nI_ltI, nI_eq, nI_clamp]
  simp only [r_al0 dX10_write_15, r_getf dX10_write_16 F10_49, r_il1 dX10_write_19, r_iald dX10_write_20, r_iconst dX10_write_21 kim1, r_ic_ne (tgt := 28) dX10_write_22 rfl, r_bipush dX10_write_25 kbm6, r_iret dX10_write_27 (Nat.zero_le _) (Nat.zero_le _), r_il2 dX10_write_28, r_i2l dX10_write_29, r_lconst dX10_write_30 kl0, r_al0 dX10_write_31, r_getf dX10_write_32 F10_49, r_il1 dX10_write_35, r_iald dX10_write_36, r_iconst dX10_write_37 ki1, r_isub dX10_write_38, r_i2l dX10_write_39, List.cons_append, List.nil_append, Nat.reduceAdd, Option.toList, aI_ok, g10_24, z0, hM1.r, rd_own hM1.r, hM1.r24, rd_own hM1.r24, nI_clamp (show i < 2 ^ 31 by omega)]
  refine ⟨hin, fun k => ⟨hin, ?_⟩, fun k => h1 i hi rfl (Classical.not_not.mp k) _ hM1 s1⟩
  rcases hz i hi with e | ⟨z, hz12, ez⟩
  · exact absurd e k
  rw [ez]
  refine r_ist3 dX10_write_40 M10_83 Y155 (Nat.le_of_ble_eq_true rfl) (Nat.le_refl _) (Nat.le_refl _) ?_
  rw [l0_]
  refine m_in ?_
  simp only [ltp (show z ≤ 1000 by omega)]
  simp only [r_if_neB (tgt := 49) dX10_write_43 rfl, r_bipush dX10_write_46 kbm7, r_iret dX10_write_48 (Nat.zero_le _) (Nat.zero_le _), List.cons_append, List.nil_append, Nat.reduceAdd, Option.toList, z0]
  refine ⟨fun k2 => ?_, fun k2 => h2 i z hi hz12 rfl ez (Classical.not_not.mp k2) _ hM1 s1⟩
  obtain ⟨j, hj, rfl⟩ := ix (n := z) (by omega) (Classical.not_not.mp k2)
  have h3 := h3 i z j hi hz12 hj rfl ez rfl
  have hi2 := vp_in_nI (show 12 * i + j < 48 by omega) (by omega)
  simp (disch := omega) only [E2, nI_1, nI_add, nI_leI, nI_ltI, nI_eq, nI_clamp]
  simp (disch := first | omega | (simp only [List.length_cons, List.length_nil]; omega)) only [r_al0 dX10_write_49, r_getf dX10_write_50 F10_55, r_bipush dX10_write_53 kb12, r_il1 dX10_write_55, r_imul dX10_write_56, r_il2 dX10_write_57, r_iadd dX10_write_58, r_al0 dX10_write_59, r_getf dX10_write_60 F10_52, r_il1 dX10_write_63, r_iald dX10_write_64, r_if_ne (tgt := 73) dX10_write_65 rfl, r_il3 dX10_write_68, r_i2s dX10_write_69, r_goto (tgt := 74) dX10_write_70 rfl, r_il3 dX10_write_73, r_iast dX10_write_74, r_al0 dX10_write_75, r_getf dX10_write_76 F10_55, r_bipush dX10_write_79 kb12, r_il1 dX10_write_81, r_imul dX10_write_82, r_il2 dX10_write_83, r_iadd dX10_write_84, r_iald dX10_write_85, r_iret dX10_write_86 (Nat.zero_le _) (Nat.zero_le _), List.cons_append, List.nil_append, Nat.reduceAdd, Option.toList, aI_ok, g10_25, g10_26, pk_un, pk_us, rd_up_eq, rd_up_ne, sI_ok, up_eq, up_ne, up_up, z0, hM1.r, rd_own hM1.r, hM1.r25, rd_own hM1.r25, hM1.r26, rd_own hM1.r26, s12, nI_clamp (show i < 2 ^ 31 by omega), nI_clamp (show 12 * i + j < 2 ^ 31 by omega)]
  refine ⟨hin, fun k3 => ⟨hi2, hi2, ?_⟩, fun k3 => ⟨hi2, hi2, ?_⟩⟩
  · have := h3 v (by rw [if_neg k3]) _ (hM1.w26 _) (s1.up (by omega))
    exact this
  · have := h3 v.toInt16.toInt32 (by rw [if_pos (Classical.not_not.mp k3)]) _ (hM1.w26 _) (s1.up (by omega))
    exact this
end M12
