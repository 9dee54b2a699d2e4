section M17
variable {X : HM} {EV : Nat → Value} {d : Nat} {hm : HM} {hs : Nat} {Q : QT} {m n : Nat} {u : Nat → Int32} {A : Nat → Nat → Int32} {R : Nat → Int64} {w h nl np nw nr : Nat} {L : Nat → Nat}
theorem m_letter {k wh : Int32} (hM : MO hm m u A R) (hZ : MZ (A 0) n w h nl np nw nr L)
    (h0 : ¬ ((0 ≤ k ∧ k < nI nl) ∧ (0 ≤ wh ∧ wh ≤ 3)) → ∀ hm' u' A', MO hm' m u' A' R → KM u u' A A' → sm m (m + 16) hm hm' → Q (some (.int (-2))) hm' hs)
    (h1 : ∀ i, i < nl → k = nI i → wh ≠ 3 → (0 ≤ wh ∧ wh ≤ 3) → ∀ hm' u' A', MO hm' m u' A' R → KM u u' A A' → sm m (m + 16) hm hm' → Q (some (.int (if wh = 0 then A 0 (55 + 2 * i) else if wh = 1 then A 0 (55 + 2 * i + 1) else A 0 (207 + i)))) hm' hs)
    (hQ : ∀ i, i < nl → k = nI i → wh = 3 → ∀ hm' u' A', MO hm' m u' A' R → KM u u' A A' → sm m (m + 16) hm hm' → ∀ F, (∀ q, q < np → F q = ftM (A 0) L n nl q) → Q (some (.int (nI (pfv F i np)))) hm' hs) : CC X EV (d + 9) 244 [.ref m, .int k, .int wh] hm hs Q := by
  have hW := hZ.2.2.2.2
  have hl10 := hW.1.2
  have hp := hW.2.1.1
  have hp8 := hW.2.1.2
  have hM1 := hM.o (upd u 4 0)
  have s1 : sm m (m + 16) hm (im_up hm m (.inr (10, fs_MO m (upd u 4 0)))) := sm.rf.up (by omega)
  refine c_of (ls2 := [.ref m, .int k, .int wh, .null, .null]) Y244 (Nat.le_of_ble_eq_true rfl) rfl I244 ?_
  simp (disch := first | omega | (simp only [List.length_cons, List.length_nil]; omega)) only [r_al0 dX10_letter_0, r_iconst dX10_letter_1 ki0, r_putf dX10_letter_2 F10_1, r_al0 dX10_letter_5, r_il1 dX10_letter_6, List.cons_append, List.nil_append, Nat.reduceAdd, Option.toList, fit_i, ft10_4, p10_4, pk_un, pk_us, rd_up_eq, rd_up_ne, true_and, up_eq, up_ne, up_up, z0, hM.r, rd_own hM.r, hM.r, rd_own hM.r]
  generalize im_up hm m (.inr (10, fs_MO m (upd u 4 0))) = hm1 at hM1 s1 ⊢
  refine r_iv2 dX10_letter_7 M10_240 Y231 O231 (Nat.le_of_ble_eq_true rfl) (rcv_own hM1.r) (Nat.le_refl _) (Nat.le_refl _) ?_
  refine m_isLetterAt hM1 hW.1.1 (by omega) ?_
  simp only [r_if_eq (tgt := 25) dX10_letter_10 rfl, r_il2 dX10_letter_13, r_i2l dX10_letter_14, r_lconst dX10_letter_15 kl0, r_ldc2 dX10_letter_16 K10_326, r_bipush dX10_letter_25 kbm2, r_iret dX10_letter_27 (Nat.zero_le _) (Nat.zero_le _), List.cons_append, List.nil_append, Nat.reduceAdd, Option.toList, z0]
  refine ⟨fun h => h0 (fun z => h z.1) _ _ _ hM1 KM.rf.u4 s1, fun h => ?_⟩
  refine r_ist3 dX10_letter_19 M10_83 Y155 (Nat.le_of_ble_eq_true rfl) (Nat.le_refl _) (Nat.le_refl _) ?_
  rw [l0_, show (3 : Int64) = (3 : Int32).toInt64 from rfl]
  refine m_in ?_
  simp only [r_if_neB (tgt := 28) dX10_letter_22 rfl, r_bipush dX10_letter_25 kbm2, r_iret dX10_letter_27 (Nat.zero_le _) (Nat.zero_le _), List.cons_append, List.nil_append, Nat.reduceAdd, Option.toList, z0]
  refine ⟨fun h2 => ?_, fun h2 => h0 (fun z => Classical.not_not.mp h2 z.2) _ _ _ hM1 KM.rf.u4 s1⟩
  have h2 := Classical.not_not.mp h2
  obtain ⟨i, hi, rfl⟩ := ix (by omega) (Classical.not_not.mp h)
  obtain ⟨j, hj, rfl⟩ := ixle (n := 3) (by omega) h2.1 h2.2
  simp (disch := omega) only [E2, nI_1, nI_add, nI_leI, nI_ltI, nI_eq, nI_clamp]
  rcases (show j = 0 ∨ j = 1 ∨ j = 2 ∨ j = 3 by omega) with e | e | e | e
  · subst e
    have h1 := h1 i hi rfl (by decide) h2 _ _ _ hM1 KM.rf.u4 s1
    rw [if_pos (show nI 0 = 0 from rfl)] at h1
    simp only [r_il2 dX10_letter_28, r_iconst dX10_letter_29 ki2, r_ic_ge (tgt := 47) dX10_letter_30 rfl, r_al0 dX10_letter_33, r_getf dX10_letter_34 F10_13, r_bipush dX10_letter_37 kb55, r_iconst dX10_letter_39 ki2, r_il1 dX10_letter_40, r_imul dX10_letter_41, r_iadd dX10_letter_42, r_il2 dX10_letter_43, r_iadd dX10_letter_44, r_iald dX10_letter_45, r_iret dX10_letter_46 (Nat.zero_le _) (Nat.zero_le _), r_il2 dX10_letter_47, r_iconst dX10_letter_48 ki2, r_ic_ne (tgt := 63) dX10_letter_49 rfl, r_al0 dX10_letter_52, r_getf dX10_letter_53 F10_13, r_sipush dX10_letter_56 ks207, r_il1 dX10_letter_59, r_iadd dX10_letter_60, r_iald dX10_letter_61, r_iret dX10_letter_62 (Nat.zero_le _) (Nat.zero_le _), r_al0 dX10_letter_63, List.cons_append, List.nil_append, Nat.reduceAdd, Option.toList, aI_ok, g10_0, z0, hM1.r, rd_own hM1.r, hM1.r0, rd_own hM1.r0, s55, nI_add, nI_clamp (show 55 + 2 * i + 0 < 2 ^ 31 by omega)]
    exact ⟨fun z => absurd z (by decide), fun _ => ⟨vp_in_nI (by omega) (by omega), h1⟩⟩
  · subst e
    have h1 := h1 i hi rfl (by decide) h2 _ _ _ hM1 KM.rf.u4 s1
    rw [if_neg (by decide), if_pos (show nI 1 = 1 from rfl)] at h1
    simp only [r_il2 dX10_letter_28, r_iconst dX10_letter_29 ki2, r_ic_ge (tgt := 47) dX10_letter_30 rfl, r_al0 dX10_letter_33, r_getf dX10_letter_34 F10_13, r_bipush dX10_letter_37 kb55, r_iconst dX10_letter_39 ki2, r_il1 dX10_letter_40, r_imul dX10_letter_41, r_iadd dX10_letter_42, r_il2 dX10_letter_43, r_iadd dX10_letter_44, r_iald dX10_letter_45, r_iret dX10_letter_46 (Nat.zero_le _) (Nat.zero_le _), r_il2 dX10_letter_47, r_iconst dX10_letter_48 ki2, r_ic_ne (tgt := 63) dX10_letter_49 rfl, r_al0 dX10_letter_52, r_getf dX10_letter_53 F10_13, r_sipush dX10_letter_56 ks207, r_il1 dX10_letter_59, r_iadd dX10_letter_60, r_iald dX10_letter_61, r_iret dX10_letter_62 (Nat.zero_le _) (Nat.zero_le _), r_al0 dX10_letter_63, List.cons_append, List.nil_append, Nat.reduceAdd, Option.toList, aI_ok, g10_0, z0, hM1.r, rd_own hM1.r, hM1.r0, rd_own hM1.r0, s55, nI_add, nI_clamp (show 55 + 2 * i + 1 < 2 ^ 31 by omega)]
    exact ⟨fun z => absurd z (by decide), fun _ => ⟨vp_in_nI (by omega) (by omega), h1⟩⟩
  · subst e
    have h1 := h1 i hi rfl (by decide) h2 _ _ _ hM1 KM.rf.u4 s1
    rw [if_neg (by decide), if_neg (by decide)] at h1
    simp only [r_il2 dX10_letter_28, r_iconst dX10_letter_29 ki2, r_ic_ge (tgt := 47) dX10_letter_30 rfl, r_al0 dX10_letter_33, r_getf dX10_letter_34 F10_13, r_bipush dX10_letter_37 kb55, r_iconst dX10_letter_39 ki2, r_il1 dX10_letter_40, r_imul dX10_letter_41, r_iadd dX10_letter_42, r_il2 dX10_letter_43, r_iadd dX10_letter_44, r_iald dX10_letter_45, r_iret dX10_letter_46 (Nat.zero_le _) (Nat.zero_le _), r_il2 dX10_letter_47, r_iconst dX10_letter_48 ki2, r_ic_ne (tgt := 63) dX10_letter_49 rfl, r_al0 dX10_letter_52, r_getf dX10_letter_53 F10_13, r_sipush dX10_letter_56 ks207, r_il1 dX10_letter_59, r_iadd dX10_letter_60, r_iald dX10_letter_61, r_iret dX10_letter_62 (Nat.zero_le _) (Nat.zero_le _), r_al0 dX10_letter_63, List.cons_append, List.nil_append, Nat.reduceAdd, Option.toList, aI_ok, g10_0, z0, hM1.r, rd_own hM1.r, hM1.r0, rd_own hM1.r0, s55, s207, nI_clamp (show 207 + i < 2 ^ 31 by omega)]
    exact ⟨fun _ => ⟨fun z => absurd rfl z, fun _ => ⟨vp_in_nI (by omega) (by omega), h1⟩⟩, fun z => absurd (by decide) z⟩
  · subst e
    simp only [r_il2 dX10_letter_28, r_iconst dX10_letter_29 ki2, r_ic_ge (tgt := 47) dX10_letter_30 rfl, r_al0 dX10_letter_33, r_getf dX10_letter_34 F10_13, r_bipush dX10_letter_37 kb55, r_iconst dX10_letter_39 ki2, r_il1 dX10_letter_40, r_imul dX10_letter_41, r_iadd dX10_letter_42, r_il2 dX10_letter_43, r_iadd dX10_letter_44, r_iald dX10_letter_45, r_iret dX10_letter_46 (Nat.zero_le _) (Nat.zero_le _), r_il2 dX10_letter_47, r_iconst dX10_letter_48 ki2, r_ic_ne (tgt := 63) dX10_letter_49 rfl, r_al0 dX10_letter_52, r_getf dX10_letter_53 F10_13, r_sipush dX10_letter_56 ks207, r_il1 dX10_letter_59, r_iadd dX10_letter_60, r_iald dX10_letter_61, r_iret dX10_letter_62 (Nat.zero_le _) (Nat.zero_le _), r_al0 dX10_letter_63, List.cons_append, List.nil_append, Nat.reduceAdd, Option.toList, aI_ok, g10_0, z0, hM1.r, rd_own hM1.r, hM1.r0, rd_own hM1.r0, s55, s207]
    refine ⟨fun _ => ⟨fun _ => ?_, fun z => absurd (Classical.not_not.mp z) (by decide)⟩, fun z => absurd (by decide) z⟩
    refine r_iv1 dX10_letter_64 M10_295 Y227 O227 (Nat.le_of_ble_eq_true rfl) (rcv_own hM1.r) (Nat.le_refl _) (Nat.le_refl _) ?_
    refine m_lf hM1 hZ (fun hm2 u2 A2 hM2 k2 l2 hF s2 => ?_)
    have hQ := hQ i hi rfl rfl hm2 u2 A2 hM2 (KM.rf.u4.trans k2) (s1.trans s2) (A2 21) hF
    have e0 : A2 0 = A 0 := k2.S
    rw [← e0] at hp
    simp only [r_iconst dX10_letter_67 ki0, r_is3 dX10_letter_68, r_iconst dX10_letter_69 ki0, r_is4 dX10_letter_70, List.cons_append, List.nil_append, Nat.reduceAdd, Option.toList, cat_f, cat_i, cat_n, cat_r, eq_self, true_and, z0]
    refine up_loop np (fun q => E1 X EV (d + 8) 10 0 0 (some .int) false cX10_letter Q 72 [.ref m, .int (nI i), .int (nI 3), .int (nI (pfv (A2 21) i q)), .int (nI q)] [] 0 0 hm2 hs) ?_ ?_ 0 (by omega)
    · skip
      simp only [r_il4 dX10_letter_72, r_al0 dX10_letter_74, r_getf dX10_letter_75 F10_13, r_iconst dX10_letter_78 ki4, r_iald dX10_letter_79, r_ic_ge (tgt := 111) dX10_letter_80 rfl, r_il3 dX10_letter_83, r_al0 dX10_letter_84, r_getf dX10_letter_85 F10_46, r_il4 dX10_letter_88, r_iald dX10_letter_90, r_il1 dX10_letter_91, r_il3 dX10_letter_111, r_iret dX10_letter_112 (Nat.zero_le _) (Nat.zero_le _), List.cons_append, List.nil_append, Nat.reduceAdd, Option.toList, aI_ok, g10_0, g10_21, z0, hM2.r, rd_own hM2.r, hM2.r0, rd_own hM2.r0, vs4, ck4, hp, true_and]
      exact ⟨fun _ => hQ, fun h => absurd (Int32.le_refl _) h⟩
    · intro q hq ih
      have hpl := pfv_le (A2 21) i q
      simp only [r_il4 dX10_letter_72, r_al0 dX10_letter_74, r_getf dX10_letter_75 F10_13, r_iconst dX10_letter_78 ki4, r_iald dX10_letter_79, r_ic_ge (tgt := 111) dX10_letter_80 rfl, r_il3 dX10_letter_83, r_al0 dX10_letter_84, r_getf dX10_letter_85 F10_46, r_il4 dX10_letter_88, r_iald dX10_letter_90, r_il1 dX10_letter_91, r_il3 dX10_letter_111, r_iret dX10_letter_112 (Nat.zero_le _) (Nat.zero_le _), List.cons_append, List.nil_append, Nat.reduceAdd, Option.toList, aI_ok, g10_0, g10_21, z0, hM2.r, rd_own hM2.r, hM2.r0, rd_own hM2.r0, hM2.r21, rd_own hM2.r21, vs4, ck4, hp, true_and, nI_clamp (show q < 2 ^ 31 by omega)]
      refine ⟨fun h => absurd ((nI_leI (by omega) (by omega)).mp h) (by omega), fun _ => ⟨vp_in_nI (by omega) (by omega), ?_⟩⟩
      refine r_ist2 dX10_letter_92 M10_178 Y156 (Nat.le_of_ble_eq_true rfl) (Nat.le_refl _) (Nat.le_refl _) ?_
      refine m_has (by omega) ?_
      simp only [r_if_eq (tgt := 102) dX10_letter_95 rfl, r_iconst dX10_letter_98 ki1, r_goto (tgt := 103) dX10_letter_99 rfl, r_iconst dX10_letter_102 ki0, r_iadd dX10_letter_103, r_is3 dX10_letter_104, r_ii4 dX10_letter_105 kn1, r_gotoB (tgt := 72) dX10_letter_108 rfl, List.cons_append, List.nil_append, Nat.reduceAdd, Option.toList, cat_f, cat_i, cat_n, cat_r, eq_self, true_and, z0]
      refine ⟨fun h => ?_, fun h => ?_⟩
      · rw [pfv, if_neg h] at ih
        simp (disch := omega) only [E2, nI_1, nI_add, nI_leI, nI_ltI, nI_eq, nI_clamp]
        rw [show nI (pfv (A2 21) i q) + 0 = nI (pfv (A2 21) i q) from nI_add _ 0]
        exact ih
      · rw [pfv, if_pos (Classical.not_not.mp h)] at ih
        simp (disch := omega) only [E2, nI_1, nI_add, nI_leI, nI_ltI, nI_eq, nI_clamp]
        exact ih
theorem m_judge {r : Int32} (hM : MO hm m u A R) (hZ : MZ (A 0) n w h nl np nw nr L) (hz : ∀ i, i < 4 → A 24 i = -1 ∨ ∃ z, z ≤ 12 ∧ A 24 i = nI z)
    (h0 : ¬ (0 ≤ r ∧ r < 4) → ∀ hm' u' A', MO hm' m u' A' R → KM u u' A A' → sm m (m + 16) hm hm' → Q (some (.int (-2))) hm' hs)
    (h1 : ∀ i, i < 4 → r = nI i → A 24 i = -1 → ∀ hm' u' A', MO hm' m u' A' R → KM u u' A A' → sm m (m + 16) hm hm' → Q (some (.int (-6))) hm' hs)
    (hQ : ∀ i z, i < 4 → z ≤ 12 → r = nI i → A 24 i = nI z → ∀ hm' u' A', MO hm' m u' A' R → KM u u' A A' → sm m (m + 16) hm hm' →
      ∀ x, x ≤ min z np → (∀ q, q < x → (0 ≤ A 26 (12 * i + q) ∧ A 26 (12 * i + q) < nI nl) ∧ bt (surM (A 0) (ftM (A 0) L n nl) nw nr q) (A 26 (12 * i + q)).toNatClampNeg = true) → (x < min z np → ¬ ((0 ≤ A 26 (12 * i + x) ∧ A 26 (12 * i + x) < nI nl) ∧ bt (surM (A 0) (ftM (A 0) L n nl) nw nr x) (A 26 (12 * i + x)).toNatClampNeg = true)) → Q (some (.int (nI x))) hm' hs) : CC X EV (d + 9) 257 [.ref m, .int r] hm hs Q := by
  have hW := hZ.2.2.2.2
  have hl := hW.1.1
  have hl10 := hW.1.2
  have hp := hW.2.1.1
  have hp8 := hW.2.1.2
  have hM1 := hM.o (upd u 4 0)
  have s1 : sm m (m + 16) hm (im_up hm m (.inr (10, fs_MO m (upd u 4 0)))) := sm.rf.up (by omega)
  refine c_of (ls2 := [.ref m, .int r, .null, .null]) Y257 (Nat.le_of_ble_eq_true rfl) rfl I257 ?_
  simp (disch := first | omega | (simp only [List.length_cons, List.length_nil]; omega)) only [r_al0 dX10_judge_0, r_iconst dX10_judge_1 ki0, r_putf dX10_judge_2 F10_1, r_il1 dX10_judge_5, List.cons_append, List.nil_append, Nat.reduceAdd, Option.toList, fit_i, ft10_4, p10_4, pk_un, pk_us, rd_up_eq, rd_up_ne, true_and, up_eq, up_ne, up_up, z0, hM.r, rd_own hM.r, hM.r, rd_own hM.r]
  generalize im_up hm m (.inr (10, fs_MO m (upd u 4 0))) = hm1 at hM1 s1 ⊢
  refine r_ist1 dX10_judge_6 M10_344 Y253 (Nat.le_of_ble_eq_true rfl) (Nat.le_refl _) (Nat.le_refl _) ?_
  refine m_isRowAt ?_
  simp only [r_if_neB (tgt := 15) dX10_judge_9 rfl, r_bipush dX10_judge_12 kbm2, r_iret dX10_judge_14 (Nat.zero_le _) (Nat.zero_le _), List.cons_append, List.nil_append, Nat.reduceAdd, Option.toList, z0]
  refine ⟨fun h => ?_, fun h => h0 (Classical.not_not.mp h) _ _ _ hM1 KM.rf.u4 s1⟩
  obtain ⟨i, hi, rfl⟩ := in4 (Classical.not_not.mp h)
  have hin := vp_in_nI hi (by omega)
  simp (disch := omega) only [E2, nI_1, nI_add, nI_leI, nI_ltI, nI_eq, nI_clamp]
  simp only [r_al0 dX10_judge_15, r_getf dX10_judge_16 F10_49, r_il1 dX10_judge_19, r_iald dX10_judge_20, r_iconst dX10_judge_21 kim1, r_ic_ne (tgt := 28) dX10_judge_22 rfl, r_bipush dX10_judge_25 kbm6, r_iret dX10_judge_27 (Nat.zero_le _) (Nat.zero_le _), r_al0 dX10_judge_28, List.cons_append, List.nil_append, Nat.reduceAdd, Option.toList, aI_ok, g10_24, z0, hM1.r, rd_own hM1.r, hM1.r24, rd_own hM1.r24, nI_clamp (show i < 2 ^ 31 by omega)]
  refine ⟨hin, fun k => ?_, fun k => h1 i hi rfl (Classical.not_not.mp k) _ _ _ hM1 KM.rf.u4 s1⟩
  rcases hz i hi with e | ⟨z, hz12, ez⟩
  · exact absurd e k
  refine r_iv1 dX10_judge_29 M10_295 Y227 O227 (Nat.le_of_ble_eq_true rfl) (rcv_own hM1.r) (Nat.le_refl _) (Nat.le_refl _) ?_
  refine m_lf hM1 hZ (fun hm2 u2 A2 hM2 k2 l2 hF s2 => ?_)
  have hQ := hQ i z hi hz12 rfl ez hm2 u2 A2 hM2 (KM.rf.u4.trans k2) (s1.trans s2)
  have e0 : A2 0 = A 0 := k2.S
  have e24 : A2 24 = A 24 := k2.2 24 (by decide) (by decide) (by decide) (by decide)
  have e26 : A2 26 = A 26 := k2.2 26 (by decide) (by decide) (by decide) (by decide)
  rw [← e0] at hp hl
  rw [← e24] at ez
  simp only [r_iconst dX10_judge_32 ki0, r_is2 dX10_judge_33, List.cons_append, List.nil_append, Nat.reduceAdd, Option.toList, cat_f, cat_i, cat_n, cat_r, eq_self, true_and, z0]
  have fin : ∀ x, x ≤ min z np → (∀ q, q < x → (0 ≤ A 26 (12 * i + q) ∧ A 26 (12 * i + q) < nI nl) ∧ bt (surM (A 0) (ftM (A 0) L n nl) nw nr q) (A 26 (12 * i + q)).toNatClampNeg = true) → (x < min z np → ¬ ((0 ≤ A 26 (12 * i + x) ∧ A 26 (12 * i + x) < nI nl) ∧ bt (surM (A 0) (ftM (A 0) L n nl) nw nr x) (A 26 (12 * i + x)).toNatClampNeg = true)) → ∀ y, E1 X EV (d + 8) 10 0 0 (some .int) false cX10_judge Q 95 [.ref m, .int (nI i), .int (nI x), y] [] 0 0 hm2 hs := by
    intro x a b c y
    have := hQ x a b c
    simp only [r_il2 dX10_judge_95, r_iret dX10_judge_96 (Nat.zero_le _) (Nat.zero_le _), List.cons_append, List.nil_append, Nat.reduceAdd, Option.toList, z0]
    exact this
  suffices H : ∀ x, x ≤ min z np → ∀ y, (∀ q, q < x → (0 ≤ A 26 (12 * i + q) ∧ A 26 (12 * i + q) < nI nl) ∧ bt (surM (A 0) (ftM (A 0) L n nl) nw nr q) (A 26 (12 * i + q)).toNatClampNeg = true) → E1 X EV (d + 8) 10 0 0 (some .int) false cX10_judge Q 34 [.ref m, .int (nI i), .int (nI x), y] [] 0 0 hm2 hs from H 0 (by omega) _ (fun q hq => absurd hq (Nat.not_lt_zero q))
  refine up_loop (min z np) _ ?_ ?_
  · intro y hall
    have f1 := fin (min z np) (Nat.le_refl _) hall (fun h => absurd h (Nat.lt_irrefl _)) y
    simp only [r_il2 dX10_judge_34, r_al0 dX10_judge_35, r_getf dX10_judge_36 F10_49, r_il1 dX10_judge_39, r_iald dX10_judge_40, r_ic_geB (tgt := 95) dX10_judge_41 rfl, r_il2 dX10_judge_44, r_al0 dX10_judge_45, r_getf dX10_judge_46 F10_13, r_iconst dX10_judge_49 ki4, r_iald dX10_judge_50, r_ic_geB (tgt := 95) dX10_judge_51 rfl, r_al0 dX10_judge_54, r_getf dX10_judge_55 F10_55, r_bipush dX10_judge_58 kb12, r_il1 dX10_judge_60, r_imul dX10_judge_61, r_il2 dX10_judge_62, r_iadd dX10_judge_63, r_iald dX10_judge_64, r_is3 dX10_judge_65, r_al0 dX10_judge_66, r_il3 dX10_judge_67, List.cons_append, List.nil_append, Nat.reduceAdd, Option.toList, aI_ok, cat_f, cat_i, cat_n, cat_r, eq_self, g10_0, g10_24, g10_26, true_and, z0, hM2.r, rd_own hM2.r, hM2.r0, rd_own hM2.r0, hM2.r24, rd_own hM2.r24, vs4, ck4, hp, true_and, nI_clamp (show i < 2 ^ 31 by omega), ez]
    refine ⟨hin, fun _ => ?_, fun h3 => ⟨fun _ => ?_, fun h4 => ?_⟩⟩
    · simp (disch := omega) only [E2, nI_1, nI_add, nI_leI, nI_ltI, nI_eq, nI_clamp]
      exact f1
    · simp (disch := omega) only [E2, nI_1, nI_add, nI_leI, nI_ltI, nI_eq, nI_clamp]
      exact f1
    · rw [nI_leI (by omega) (by omega)] at h3 h4
      exact absurd h3 (by omega)
  · intro x hx ih y hall
    have f1 := fin x (by omega) hall
    have hxz : x < z := by omega
    have hxp : x < np := by omega
    simp only [r_il2 dX10_judge_34, r_al0 dX10_judge_35, r_getf dX10_judge_36 F10_49, r_il1 dX10_judge_39, r_iald dX10_judge_40, r_ic_geB (tgt := 95) dX10_judge_41 rfl, r_il2 dX10_judge_44, r_al0 dX10_judge_45, r_getf dX10_judge_46 F10_13, r_iconst dX10_judge_49 ki4, r_iald dX10_judge_50, r_ic_geB (tgt := 95) dX10_judge_51 rfl, r_al0 dX10_judge_54, r_getf dX10_judge_55 F10_55, r_bipush dX10_judge_58 kb12, r_il1 dX10_judge_60, r_imul dX10_judge_61, r_il2 dX10_judge_62, r_iadd dX10_judge_63, r_iald dX10_judge_64, r_is3 dX10_judge_65, r_al0 dX10_judge_66, r_il3 dX10_judge_67, List.cons_append, List.nil_append, Nat.reduceAdd, Option.toList, aI_ok, cat_f, cat_i, cat_n, cat_r, eq_self, g10_0, g10_24, g10_26, true_and, z0, hM2.r, rd_own hM2.r, hM2.r0, rd_own hM2.r0, hM2.r24, rd_own hM2.r24, hM2.r26, rd_own hM2.r26, vs4, ck4, hp, true_and, nI_clamp (show i < 2 ^ 31 by omega), ez, s12, e26, nI_clamp (show 12 * i + x < 2 ^ 31 by omega)]
    refine ⟨hin, fun h3 => absurd ((nI_leI (by omega) (by omega)).mp h3) (by omega), fun _ => ⟨fun h3 => absurd ((nI_leI (by omega) (by omega)).mp h3) (by omega), fun _ => ⟨vp_in_nI (by omega) (by omega), ?_⟩⟩⟩
    refine r_iv2 dX10_judge_68 M10_240 Y231 O231 (Nat.le_of_ble_eq_true rfl) (rcv_own hM2.r) (Nat.le_refl _) (Nat.le_refl _) ?_
    refine m_isLetterAt hM2 hl (by omega) ?_
    simp only [r_if_eqB (tgt := 95) dX10_judge_71 rfl, r_al0 dX10_judge_74, r_il2 dX10_judge_75, List.cons_append, List.nil_append, Nat.reduceAdd, Option.toList, z0]
    refine ⟨fun h3 => ?_, fun h3 => ?_⟩
    · simp (disch := omega) only [E2, nI_1, nI_add, nI_leI, nI_ltI, nI_eq, nI_clamp]
      exact f1 (fun _ z => h3 z.1) _
    · have h3 := Classical.not_not.mp h3
      obtain ⟨v, hv, ev⟩ := ix (by omega) h3
      rw [ev] at f1 ⊢
      rw [nI_clamp (by omega)] at f1
      refine r_iv2 dX10_judge_76 M10_298 Y229 O229 (Nat.le_of_ble_eq_true rfl) (rcv_own hM2.r) (Nat.le_refl _) (Nat.le_refl _) ?_
      refine m_sf hM2 e0 hW hF hxp ?_
      simp only [r_il3 dX10_judge_79, List.cons_append, List.nil_append, Nat.reduceAdd, Option.toList, z0]
      refine r_ist2 dX10_judge_80 M10_178 Y156 (Nat.le_of_ble_eq_true rfl) (Nat.le_refl _) (Nat.le_refl _) ?_
      refine m_has (by omega) ?_
      simp only [r_if_ne (tgt := 89) dX10_judge_83 rfl, r_gotoB (tgt := 95) dX10_judge_86 rfl, r_ii2 dX10_judge_89 kn1, r_gotoB (tgt := 34) dX10_judge_92 rfl, List.cons_append, List.nil_append, Nat.reduceAdd, Option.toList, cat_f, cat_i, cat_n, cat_r, eq_self, true_and, z0]
      refine ⟨fun h4 => ?_, fun h4 => ?_⟩
      · simp (disch := omega) only [E2, nI_1, nI_add, nI_leI, nI_ltI, nI_eq, nI_clamp]
        refine ih _ (fun q hq => ?_)
        rcases Nat.lt_or_ge q x with h' | h'
        · exact hall q h'
        · rw [show q = x by omega]
          refine ⟨h3, ?_⟩
          rw [ev, nI_clamp (by omega)]
          exact Classical.not_not.mp h4
      · simp (disch := omega) only [E2, nI_1, nI_add, nI_leI, nI_ltI, nI_eq, nI_clamp]
        exact f1 (fun _ z => Classical.not_not.mp h4 z.2) _
theorem m_looseOf {no : Int32} (hM : MO hm m u A R) (hn : A 0 2 = nI n) (hn12 : n ≤ 12) (hL : LN (A 0) n L) (hA : LA u A n) (hp : A 0 4 = nI np) (hp8 : np ≤ 8)
    (hQ : ∀ hm' u', MO hm' m u' A R → (∀ k, k ≠ 20 → u' k = u k) → sm m (m + 16) hm hm' → Q (some (.int (sumI (fun q => pcnt (shwM (A 0) L n q 2 (-1) &&& (shwM (A 0) L n q 2 no ^^^ (-1)))) np))) hm' hs) : CC X EV (d + 7) 247 [.ref m, .int no] hm hs Q := by
  refine c_of (ls2 := [.ref m, .int no, .null, .null]) Y247 (Nat.le_of_ble_eq_true rfl) rfl I247 ?_
  simp only [r_iconst dX10_looseOf_0 ki0, r_is2 dX10_looseOf_1, r_iconst dX10_looseOf_2 ki0, r_is3 dX10_looseOf_3, List.cons_append, List.nil_append, Nat.reduceAdd, Option.toList, cat_f, cat_i, cat_n, cat_r, eq_self, true_and, z0]
  suffices H : ∀ k, k ≤ np → ∀ hm' u', MO hm' m u' A R → (∀ k, k ≠ 20 → u' k = u k) → sm m (m + 16) hm hm' → E1 X EV (d + 6) 10 0 0 (some .int) false cX10_looseOf Q 4 [.ref m, .int no, .int (sumI (fun q => pcnt (shwM (A 0) L n q 2 (-1) &&& (shwM (A 0) L n q 2 no ^^^ (-1)))) k), .int (nI k)] [] 0 0 hm' hs from
    H 0 (by omega) hm u hM (fun _ _ => rfl) sm.rf
  refine up_loop np _ ?_ ?_
  · intro hm' u' hM' k' s'
    simp only [r_il3 dX10_looseOf_4, r_al0 dX10_looseOf_5, r_getf dX10_looseOf_6 F10_13, r_iconst dX10_looseOf_9 ki4, r_iald dX10_looseOf_10, r_ic_ge (tgt := 43) dX10_looseOf_11 rfl, r_il2 dX10_looseOf_14, r_al0 dX10_looseOf_15, r_il3 dX10_looseOf_16, r_iconst dX10_looseOf_17 ki2, r_iconst dX10_looseOf_18 kim1, r_il2 dX10_looseOf_43, r_iret dX10_looseOf_44 (Nat.zero_le _) (Nat.zero_le _), List.cons_append, List.nil_append, Nat.reduceAdd, Option.toList, aI_ok, g10_0, z0, hM'.r, rd_own hM'.r, hM'.r0, rd_own hM'.r0, vs4, ck4, hp, true_and]
    exact ⟨fun _ => hQ hm' u' hM' k' s', fun h => absurd (Int32.le_refl _) h⟩
  · intro k hk ih hm' u' hM' k' s'
    simp only [r_il3 dX10_looseOf_4, r_al0 dX10_looseOf_5, r_getf dX10_looseOf_6 F10_13, r_iconst dX10_looseOf_9 ki4, r_iald dX10_looseOf_10, r_ic_ge (tgt := 43) dX10_looseOf_11 rfl, r_il2 dX10_looseOf_14, r_al0 dX10_looseOf_15, r_il3 dX10_looseOf_16, r_iconst dX10_looseOf_17 ki2, r_iconst dX10_looseOf_18 kim1, r_il2 dX10_looseOf_43, r_iret dX10_looseOf_44 (Nat.zero_le _) (Nat.zero_le _), List.cons_append, List.nil_append, Nat.reduceAdd, Option.toList, aI_ok, g10_0, z0, hM'.r, rd_own hM'.r, hM'.r0, rd_own hM'.r0, vs4, ck4, hp, true_and]
    refine ⟨fun h => absurd ((nI_leI (by omega) (by omega)).mp h) (by omega), fun _ => ?_⟩
    refine r_iv4 dX10_looseOf_19 M10_286 Y222 O222 (Nat.le_of_ble_eq_true rfl) (rcv_own hM'.r) (Nat.le_refl _) (Nat.le_refl _) ?_
    refine m_showsOf hM' hn hn12 hL ⟨hA.1, (k' 15 (by decide)).trans hA.2.1, hA.2.2⟩ (by omega) (fun hm2 u2 hM2 k2 s2 => ?_)
    simp only [r_al0 dX10_looseOf_22, r_il3 dX10_looseOf_23, r_iconst dX10_looseOf_24 ki2, r_il1 dX10_looseOf_25, List.cons_append, List.nil_append, Nat.reduceAdd, Option.toList, z0]
    refine r_iv4 dX10_looseOf_26 M10_286 Y222 O222 (Nat.le_of_ble_eq_true rfl) (rcv_own hM2.r) (Nat.le_refl _) (Nat.le_refl _) ?_
    refine m_showsOf hM2 hn hn12 hL ⟨hA.1, ((k2 15 (by decide)).trans (k' 15 (by decide))).trans hA.2.1, hA.2.2⟩ (by omega) (fun hm3 u3 hM3 k3 s3 => ?_)
    simp only [r_iconst dX10_looseOf_29 kim1, r_ixor dX10_looseOf_30, r_iand dX10_looseOf_31, List.cons_append, List.nil_append, Nat.reduceAdd, Option.toList, z0]
    refine r_ist1 dX10_looseOf_32 M10_224 Y263 (Nat.le_of_ble_eq_true rfl) (Nat.le_refl _) (Nat.le_refl _) ?_
    refine c_bitCount ?_
    simp only [r_iadd dX10_looseOf_35, r_is2 dX10_looseOf_36, r_ii3 dX10_looseOf_37 kn1, r_gotoB (tgt := 4) dX10_looseOf_40 rfl, List.cons_append, List.nil_append, Nat.reduceAdd, Option.toList, cat_f, cat_i, cat_n, cat_r, eq_self, true_and, z0]
    simp (disch := omega) only [E2, nI_1, nI_add, nI_leI, nI_ltI, nI_eq, nI_clamp]
    exact ih hm3 u3 hM3 (fun k h => ((k3 k h).trans (k2 k h)).trans (k' k h)) ((s'.trans s2).trans s3)
theorem m_loose {k : Int32} (hM : MO hm m u A R) (hZ : MZ (A 0) n w h nl np nw nr L)
    (h0 : ¬ (0 ≤ k ∧ k < nI n) → ∀ hm' u' A', MO hm' m u' A' R → KM u u' A A' → sm m (m + 16) hm hm' → Q (some (.int (-2))) hm' hs)
    (hQ : (0 ≤ k ∧ k < nI n) → ∀ hm' u' A', MO hm' m u' A' R → KM u u' A A' → sm m (m + 16) hm hm' → Q (some (.int (sumI (fun q => pcnt (shwM (A 0) L n q 2 (-1) &&& (shwM (A 0) L n q 2 k ^^^ (-1)))) np))) hm' hs) : CC X EV (d + 8) 248 [.ref m, .int k] hm hs Q := by
  obtain ⟨-, -, ⟨hn, hn12⟩, hL, -, ⟨hp, hp8⟩, -⟩ := hZ
  have hM1 := hM.o (upd u 4 0)
  have s1 : sm m (m + 16) hm (im_up hm m (.inr (10, fs_MO m (upd u 4 0)))) := sm.rf.up (by omega)
  refine c_of (ls2 := [.ref m, .int k]) Y248 (Nat.le_of_ble_eq_true rfl) rfl I248 ?_
  simp (disch := first | omega | (simp only [List.length_cons, List.length_nil]; omega)) only [r_al0 dX10_loose_0, r_iconst dX10_loose_1 ki0, r_putf dX10_loose_2 F10_1, r_al0 dX10_loose_5, r_il1 dX10_loose_6, List.cons_append, List.nil_append, Nat.reduceAdd, Option.toList, fit_i, ft10_4, p10_4, pk_un, pk_us, rd_up_eq, rd_up_ne, true_and, up_eq, up_ne, up_up, z0, hM.r, rd_own hM.r, hM.r, rd_own hM.r]
  generalize im_up hm m (.inr (10, fs_MO m (upd u 4 0))) = hm1 at hM1 s1 ⊢
  refine r_iv2 dX10_loose_7 M10_229 Y182 O182 (Nat.le_of_ble_eq_true rfl) (rcv_own hM1.r) (Nat.le_refl _) (Nat.le_refl _) ?_
  refine m_isStroke hM1 hn hn12 ?_
  simp only [r_if_ne (tgt := 16) dX10_loose_10 rfl, r_bipush dX10_loose_13 kbm2, r_iret dX10_loose_15 (Nat.zero_le _) (Nat.zero_le _), r_al0 dX10_loose_16, List.cons_append, List.nil_append, Nat.reduceAdd, Option.toList, z0]
  refine ⟨fun h => ?_, fun h => h0 (Classical.not_not.mp h) _ _ _ hM1 KM.rf.u4 s1⟩
  have hQ := hQ (Classical.not_not.mp h)
  refine r_iv1 dX10_loose_17 M10_221 Y191 O191 (Nat.le_of_ble_eq_true rfl) (rcv_own hM1.r) (Nat.le_refl _) (Nat.le_refl _) ?_
  refine m_lays2 hM1 (n := n) hn hn12 (fun hm2 u2 A2 hM2 k2 l2 s2 => ?_)
  rw [← k2.S] at hn hL hQ hp
  simp only [r_al0 dX10_loose_20, r_il1 dX10_loose_21, List.cons_append, List.nil_append, Nat.reduceAdd, Option.toList, z0]
  refine r_iv2 dX10_loose_22 M10_337 Y247 O247 (Nat.le_of_ble_eq_true rfl) (rcv_own hM2.r) (Nat.le_refl _) (Nat.le_refl _) ?_
  refine m_looseOf hM2 hn hn12 hL l2 hp hp8 (fun hm3 u3 hM3 k3 s3 => ?_)
  simp only [r_iret dX10_loose_25 (Nat.zero_le _) (Nat.zero_le _), List.cons_append, List.nil_append, Nat.reduceAdd, Option.toList, z0]
  exact hQ hm3 u3 A2 hM3 ((KM.rf.u4.trans k2).trans ⟨fun k a b c e f => k3 k c, fun s _ _ _ _ => rfl⟩) ((s1.trans s2).trans s3)
theorem m_scrape (hM : MO hm m u A R) (hZ : MZ (A 0) n w h nl np nw nr L)
    (hQ : ∀ hm' u' A', MO hm' m u' A' R → KM u u' A A' → sm m (m + 16) hm hm' → Q (some (.int (scv (fun k => sumI (fun q => pcnt (shwM (A 0) L n q 2 (-1) &&& (shwM (A 0) L n q 2 (nI k) ^^^ (-1)))) np) n).1)) hm' hs) : CC X EV (d + 8) 249 [.ref m] hm hs Q := by
  obtain ⟨-, -, ⟨hn, hn12⟩, hL, -, ⟨hp, hp8⟩, -⟩ := hZ
  have hM1 := hM.o (upd u 4 0)
  have s1 : sm m (m + 16) hm (im_up hm m (.inr (10, fs_MO m (upd u 4 0)))) := sm.rf.up (by omega)
  refine c_of (ls2 := [.ref m, .null, .null, .null, .null]) Y249 (Nat.le_of_ble_eq_true rfl) rfl I249 ?_
  simp (disch := first | omega | (simp only [List.length_cons, List.length_nil]; omega)) only [r_al0 dX10_scrape_0, r_iconst dX10_scrape_1 ki0, r_putf dX10_scrape_2 F10_1, r_al0 dX10_scrape_5, List.cons_append, List.nil_append, Nat.reduceAdd, Option.toList, fit_i, ft10_4, p10_4, pk_un, pk_us, rd_up_eq, rd_up_ne, true_and, up_eq, up_ne, up_up, z0, hM.r, rd_own hM.r, hM.r, rd_own hM.r]
  generalize im_up hm m (.inr (10, fs_MO m (upd u 4 0))) = hm1 at hM1 s1 ⊢
  refine r_iv1 dX10_scrape_6 M10_221 Y191 O191 (Nat.le_of_ble_eq_true rfl) (rcv_own hM1.r) (Nat.le_refl _) (Nat.le_refl _) ?_
  refine m_lays2 hM1 (n := n) hn hn12 (fun hm2 u2 A2 hM2 k2 l2 s2 => ?_)
  rw [← k2.S] at hn hL hQ hp
  simp only [r_iconst dX10_scrape_9 kim1, r_is1 dX10_scrape_10, r_iconst dX10_scrape_11 ki0, r_is2 dX10_scrape_12, r_iconst dX10_scrape_13 ki0, r_is3 dX10_scrape_14, List.cons_append, List.nil_append, Nat.reduceAdd, Option.toList, cat_f, cat_i, cat_n, cat_r, eq_self, true_and, z0]
  obtain ⟨G, eG⟩ : ∃ G : Nat → Int32, G = fun k => sumI (fun q => pcnt (shwM (A2 0) L n q 2 (-1) &&& (shwM (A2 0) L n q 2 (nI k) ^^^ (-1)))) np := ⟨_, rfl⟩
  rw [← eG] at hQ
  suffices H : ∀ k, k ≤ n → ∀ hm' u' y, MO hm' m u' A2 R → (∀ k, k ≠ 20 → u' k = u2 k) → sm m (m + 16) hm2 hm' → E1 X EV (d + 7) 10 0 0 (some .int) false cX10_scrape Q 15 [.ref m, .int (scv G k).1, .int (scv G k).2, .int (nI k), y] [] 0 0 hm' hs from
    H 0 (by omega) hm2 u2 _ hM2 (fun _ _ => rfl) sm.rf
  refine up_loop n _ ?_ ?_
  · intro hm' u' y hM' k' s'
    simp only [r_il3 dX10_scrape_15, r_al0 dX10_scrape_16, r_getf dX10_scrape_17 F10_13, r_iconst dX10_scrape_20 ki2, r_iald dX10_scrape_21, r_ic_ge (tgt := 52) dX10_scrape_22 rfl, r_al0 dX10_scrape_25, r_il3 dX10_scrape_26, r_il1 dX10_scrape_52, r_iret dX10_scrape_53 (Nat.zero_le _) (Nat.zero_le _), List.cons_append, List.nil_append, Nat.reduceAdd, Option.toList, aI_ok, g10_0, z0, hM'.r, rd_own hM'.r, hM'.r0, rd_own hM'.r0, vs2, ck2, hn, true_and]
    exact ⟨fun _ => hQ hm' u' A2 hM' ((KM.rf.u4.trans k2).trans ⟨fun k a b c e f => k' k c, fun s _ _ _ _ => rfl⟩) ((s1.trans s2).trans s'), fun h => absurd (Int32.le_refl _) h⟩
  · intro k hk ih hm' u' y hM' k' s'
    simp only [r_il3 dX10_scrape_15, r_al0 dX10_scrape_16, r_getf dX10_scrape_17 F10_13, r_iconst dX10_scrape_20 ki2, r_iald dX10_scrape_21, r_ic_ge (tgt := 52) dX10_scrape_22 rfl, r_al0 dX10_scrape_25, r_il3 dX10_scrape_26, r_il1 dX10_scrape_52, r_iret dX10_scrape_53 (Nat.zero_le _) (Nat.zero_le _), List.cons_append, List.nil_append, Nat.reduceAdd, Option.toList, aI_ok, g10_0, z0, hM'.r, rd_own hM'.r, hM'.r0, rd_own hM'.r0, vs2, ck2, hn, true_and]
    refine ⟨fun h => absurd ((nI_leI (by omega) (by omega)).mp h) (by omega), fun _ => ?_⟩
    refine r_iv2 dX10_scrape_27 M10_337 Y247 O247 (Nat.le_of_ble_eq_true rfl) (rcv_own hM'.r) (Nat.le_refl _) (Nat.le_refl _) ?_
    refine m_looseOf hM' hn hn12 hL ⟨l2.1, (k' 15 (by decide)).trans l2.2.1, l2.2.2⟩ hp hp8 (fun hm3 u3 hM3 k3 s3 => ?_)
    have eGk : G k = sumI (fun q => pcnt (shwM (A2 0) L n q 2 (-1) &&& (shwM (A2 0) L n q 2 (nI k) ^^^ (-1)))) np := by rw [eG]
    rw [← eGk]
    have ih := ih hm3 u3 (.int (G k)) hM3 (fun k h => (k3 k h).trans (k' k h)) (s'.trans s3)
    unfold scv at ih
    simp only [r_is4 dX10_scrape_30, r_il4 dX10_scrape_32, r_il2 dX10_scrape_34, r_ic_gt (tgt := 41) dX10_scrape_35 rfl, r_goto (tgt := 46) dX10_scrape_38 rfl, r_il3 dX10_scrape_41, r_is1 dX10_scrape_42, r_il4 dX10_scrape_43, r_is2 dX10_scrape_45, r_ii3 dX10_scrape_46 kn1, r_gotoB (tgt := 15) dX10_scrape_49 rfl, List.cons_append, List.nil_append, Nat.reduceAdd, Option.toList, cat_f, cat_i, cat_n, cat_r, eq_self, true_and, z0]
    refine ⟨fun h => ?_, fun h => ?_⟩
    · rw [if_pos h] at ih
      simp (disch := omega) only [E2, nI_1, nI_add, nI_leI, nI_ltI, nI_eq, nI_clamp]
      exact ih
    · rw [if_neg h] at ih
      simp (disch := omega) only [E2, nI_1, nI_add, nI_leI, nI_ltI, nI_eq, nI_clamp]
      exact ih
theorem m_clearer {q k : Int32} (hM : MO hm m u A R) (hZ : MZ (A 0) n w h nl np nw nr L)
    (h0 : ¬ ((0 ≤ q ∧ q < nI np) ∧ (0 ≤ k ∧ k < nI n)) → ∀ hm' u' A', MO hm' m u' A' R → KM u u' A A' → sm m (m + 16) hm hm' → Q (some (.int (-2))) hm' hs)
    (hQ : ∀ i, i < np → q = nI i → (0 ≤ k ∧ k < nI n) → ∀ hm' u' A', MO hm' m u' A' R → KM u u' A A' → sm m (m + 16) hm hm' → Q (some (.int (pcnt (fitM (A 0) L n nl i k)))) hm' hs) : CC X EV (d + 8) 250 [.ref m, .int q, .int k] hm hs Q := by
  obtain ⟨-, -, ⟨hn, hn12⟩, hL, ⟨hl, hl10⟩, ⟨hp, hp8⟩, -⟩ := hZ
  have hM1 := hM.o (upd u 4 0)
  have s1 : sm m (m + 16) hm (im_up hm m (.inr (10, fs_MO m (upd u 4 0)))) := sm.rf.up (by omega)
  refine c_of (ls2 := [.ref m, .int q, .int k]) Y250 (Nat.le_of_ble_eq_true rfl) rfl I250 ?_
  simp (disch := first | omega | (simp only [List.length_cons, List.length_nil]; omega)) only [r_al0 dX10_clearer_0, r_iconst dX10_clearer_1 ki0, r_putf dX10_clearer_2 F10_1, r_al0 dX10_clearer_5, r_il1 dX10_clearer_6, List.cons_append, List.nil_append, Nat.reduceAdd, Option.toList, fit_i, ft10_4, p10_4, pk_un, pk_us, rd_up_eq, rd_up_ne, true_and, up_eq, up_ne, up_up, z0, hM.r, rd_own hM.r, hM.r, rd_own hM.r]
  generalize im_up hm m (.inr (10, fs_MO m (upd u 4 0))) = hm1 at hM1 s1 ⊢
  refine r_iv2 dX10_clearer_7 M10_283 Y221 O221 (Nat.le_of_ble_eq_true rfl) (rcv_own hM1.r) (Nat.le_refl _) (Nat.le_refl _) ?_
  refine m_isPlace hM1 hp (by omega) ?_
  simp only [r_if_eq (tgt := 21) dX10_clearer_10 rfl, r_al0 dX10_clearer_13, r_il2 dX10_clearer_14, r_bipush dX10_clearer_21 kbm2, r_iret dX10_clearer_23 (Nat.zero_le _) (Nat.zero_le _), List.cons_append, List.nil_append, Nat.reduceAdd, Option.toList, z0]
  refine ⟨fun h => h0 (fun z => h z.1) _ _ _ hM1 KM.rf.u4 s1, fun h => ?_⟩
  refine r_iv2 dX10_clearer_15 M10_229 Y182 O182 (Nat.le_of_ble_eq_true rfl) (rcv_own hM1.r) (Nat.le_refl _) (Nat.le_refl _) ?_
  refine m_isStroke hM1 hn hn12 ?_
  simp only [r_if_ne (tgt := 24) dX10_clearer_18 rfl, r_bipush dX10_clearer_21 kbm2, r_iret dX10_clearer_23 (Nat.zero_le _) (Nat.zero_le _), r_al0 dX10_clearer_24, List.cons_append, List.nil_append, Nat.reduceAdd, Option.toList, z0]
  refine ⟨fun h2 => ?_, fun h2 => h0 (fun z => Classical.not_not.mp h2 z.2) _ _ _ hM1 KM.rf.u4 s1⟩
  obtain ⟨i, hi, rfl⟩ := ix (by omega) (Classical.not_not.mp h)
  have hQ := hQ i hi rfl (Classical.not_not.mp h2)
  refine r_iv1 dX10_clearer_25 M10_221 Y191 O191 (Nat.le_of_ble_eq_true rfl) (rcv_own hM1.r) (Nat.le_refl _) (Nat.le_refl _) ?_
  refine m_lays2 hM1 (n := n) hn hn12 (fun hm2 u2 A2 hM2 k2 l2 s2 => ?_)
  rw [← k2.S] at hn hL hQ hl
  simp only [r_al0 dX10_clearer_28, r_il1 dX10_clearer_29, r_il2 dX10_clearer_30, List.cons_append, List.nil_append, Nat.reduceAdd, Option.toList, z0]
  refine r_iv3 dX10_clearer_31 M10_289 Y224 O224 (Nat.le_of_ble_eq_true rfl) (rcv_own hM2.r) (Nat.le_refl _) (Nat.le_refl _) ?_
  refine m_fitsOf hM2 hn hn12 hL l2 (by omega) hl hl10 (fun hm3 u3 hM3 k3 s3 => ?_)
  simp only [List.cons_append, List.nil_append, Nat.reduceAdd, Option.toList, z0]
  refine r_ist1 dX10_clearer_34 M10_224 Y263 (Nat.le_of_ble_eq_true rfl) (Nat.le_refl _) (Nat.le_refl _) ?_
  refine c_bitCount ?_
  simp only [r_iret dX10_clearer_37 (Nat.zero_le _) (Nat.zero_le _), List.cons_append, List.nil_append, Nat.reduceAdd, Option.toList, z0]
  exact hQ hm3 u3 A2 hM3 ((KM.rf.u4.trans k2).trans ⟨fun k a b c e f => k3 k c, fun s _ _ _ _ => rfl⟩) ((s1.trans s2).trans s3)
end M17
