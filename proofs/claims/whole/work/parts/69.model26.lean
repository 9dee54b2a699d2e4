section M26
variable {X : HM} {EV : Nat → Value} {d : Nat} {hm : HM} {hs : Nat} {Q : QT} {m n : Nat} {u : Nat → Int32} {A : Nat → Nat → Int32} {R : Nat → Int64} {w h nl np nw nr : Nat} {L : Nat → Nat}
theorem i64add_le {a b c : Int32} : (lg_cmp (a.toInt64 + b.toInt64) c.toInt64 ≤ 0) = (a.toInt + b.toInt ≤ c.toInt) := by
  apply propext
  rw [lg_cmp_le, Int64.le_iff_toInt_le, Int64.toInt_add, Int32.toInt_toInt64, Int32.toInt_toInt64, Int32.toInt_toInt64]
  have h1 := a.le_toInt; have h2 := a.toInt_lt; have h3 := b.le_toInt; have h4 := b.toInt_lt
  rw [Int.bmod_eq_of_le (by omega) (by omega)]
theorem i64add_gt {a b c : Int32} : (0 < lg_cmp (a.toInt64 + b.toInt64) c.toInt64) = ¬ (a.toInt + b.toInt ≤ c.toInt) := by
  rw [← i64add_le]; apply propext; rw [lg_cmp_gt, lg_cmp_le]; grind
theorem m_paste {r1 a r2 b z : Int32} (hM : MO hm m u A R) (hz : ∀ i, i < 4 → A 24 i = -1 ∨ ∃ z, z ≤ 12 ∧ A 24 i = nI z)
    (h0 : ¬ ((0 ≤ r1 ∧ r1 < 4) ∧ (0 ≤ r2 ∧ r2 < 4)) → ∀ hm' u' A', MO hm' m u' A' R → KM u u' A A' → sm m (m + 16) hm hm' → Q (some (.int (-2))) hm' hs)
    (h1 : ∀ i j, i < 4 → j < 4 → r1 = nI i → r2 = nI j → A 24 i = -1 ∨ A 24 j = -1 → ∀ hm' u' A', MO hm' m u' A' R → KM u u' A A' → sm m (m + 16) hm hm' → Q (some (.int (-6))) hm' hs)
    (h2 : ∀ i j, i < 4 → j < 4 → r1 = nI i → r2 = nI j → ¬ A 24 i = -1 → ¬ A 24 j = -1 → ¬ A 25 i = A 25 j → ∀ hm' u' A', MO hm' m u' A' R → KM u u' A A' → sm m (m + 16) hm hm' → Q (some (.int (-8))) hm' hs)
    (h3 : ∀ i j z1 z2, i < 4 → j < 4 → r1 = nI i → r2 = nI j → z1 ≤ 12 → z2 ≤ 12 → A 24 i = nI z1 → A 24 j = nI z2 → A 25 i = A 25 j → ¬ ((0 ≤ a ∧ 0 ≤ b ∧ 0 ≤ z) ∧ a.toInt + z.toInt ≤ z1 ∧ b.toInt + z.toInt ≤ z2) → ∀ hm' u' A', MO hm' m u' A' R → KM u u' A A' → sm m (m + 16) hm hm' → Q (some (.int (-7))) hm' hs)
    (hQ : ∀ i j z1 z2 zz a' b', i < 4 → j < 4 → r1 = nI i → r2 = nI j → z1 ≤ 12 → z2 ≤ 12 → A 24 i = nI z1 → A 24 j = nI z2 → A 25 i = A 25 j → z = nI zz → a = nI a' → b = nI b' → a' + zz ≤ z1 → b' + zz ≤ z2 → ∀ hm' u' A', MO hm' m u' A' R → (∀ k, k ≠ 4 → u' k = u k) → (∀ s, s ≠ 26 → A' s = A s) → (∀ x, A' 26 x = if 12 * j + b' ≤ x ∧ x < 12 * j + b' + zz then A 26 (12 * i + a' + (x - (12 * j + b'))) else A 26 x) → sm m (m + 16) hm hm' → Q (some (.int 0)) hm' hs) :
    CC X EV (d + 3) 256 [.ref m, .int r1, .int a, .int r2, .int b, .int z] hm hs Q := by
  have hM1 := hM.o (upd u 4 0)
  have s1 : sm m (m + 16) hm (im_up hm m (.inr (10, fs_MO m (upd u 4 0)))) := sm.rf.up (by omega)
  refine c_of (ls2 := [.ref m, .int r1, .int a, .int r2, .int b, .int z, .null, .null]) Y256 (Nat.le_of_ble_eq_true rfl) rfl I256 ?_
  simp (disch := first | omega | (simp only [List.length_cons, List.length_nil]; omega)) only [r_al0 dX10_paste_0, r_iconst dX10_paste_1 ki0, r_putf dX10_paste_2 F10_1, r_il1 dX10_paste_5, List.cons_append, List.nil_append, Nat.reduceAdd, Option.toList, fit_i, ft10_4, p10_4, pk_un, pk_us, rd_up_eq, rd_up_ne, true_and, up_eq, up_ne, up_up, z0, hM.r, rd_own hM.r, hM.r, rd_own hM.r]
  generalize im_up hm m (.inr (10, fs_MO m (upd u 4 0))) = hm1 at hM1 s1 ⊢
  refine r_ist1 dX10_paste_6 M10_344 Y253 (Nat.le_of_ble_eq_true rfl) (Nat.le_refl _) (Nat.le_refl _) ?_
  refine m_isRowAt ?_
  simp only [r_if_eq (tgt := 19) dX10_paste_9 rfl, r_il3 dX10_paste_12, r_bipush dX10_paste_19 kbm2, r_iret dX10_paste_21 (Nat.zero_le _) (Nat.zero_le _), List.cons_append, List.nil_append, Nat.reduceAdd, Option.toList, z0]
  refine ⟨fun g => h0 (fun q => g q.1) _ _ _ hM1 KM.rf.u4 s1, fun g => ?_⟩
  refine r_ist1 dX10_paste_13 M10_344 Y253 (Nat.le_of_ble_eq_true rfl) (Nat.le_refl _) (Nat.le_refl _) ?_
  refine m_isRowAt ?_
  simp only [r_if_neB (tgt := 22) dX10_paste_16 rfl, r_bipush dX10_paste_19 kbm2, r_iret dX10_paste_21 (Nat.zero_le _) (Nat.zero_le _), List.cons_append, List.nil_append, Nat.reduceAdd, Option.toList, z0]
  refine ⟨fun g2 => ?_, fun g2 => h0 (fun q => Classical.not_not.mp g2 q.2) _ _ _ hM1 KM.rf.u4 s1⟩
  obtain ⟨i, hi, rfl⟩ := in4 (Classical.not_not.mp g)
  obtain ⟨j, hj, rfl⟩ := in4 (Classical.not_not.mp g2)
  have hii := vp_in_nI hi (by omega)
  have hij := vp_in_nI hj (by omega)
  try simp (disch := omega) only [E2, nI_1, nI_add, nI_leI, nI_ltI, nI_eq, nI_clamp]
  simp only [r_al0 dX10_paste_22, r_getf dX10_paste_23 F10_49, r_il1 dX10_paste_26, r_iald dX10_paste_27, r_iconst dX10_paste_28 kim1, r_ic_eq (tgt := 42) dX10_paste_29 rfl, r_al0 dX10_paste_32, r_getf dX10_paste_33 F10_49, r_il3 dX10_paste_36, r_iald dX10_paste_37, r_iconst dX10_paste_38 kim1, r_ic_ne (tgt := 45) dX10_paste_39 rfl, r_bipush dX10_paste_42 kbm6, r_iret dX10_paste_44 (Nat.zero_le _) (Nat.zero_le _), r_al0 dX10_paste_45, r_getf dX10_paste_46 F10_52, r_il1 dX10_paste_49, r_iald dX10_paste_50, r_al0 dX10_paste_51, r_getf dX10_paste_52 F10_52, r_il3 dX10_paste_55, r_iald dX10_paste_56, r_ic_eq (tgt := 63) dX10_paste_57 rfl, r_bipush dX10_paste_60 kbm8, r_iret dX10_paste_62 (Nat.zero_le _) (Nat.zero_le _), r_il2 dX10_paste_63, r_if_lt (tgt := 112) dX10_paste_64 rfl, r_il4 dX10_paste_67, r_if_lt (tgt := 112) dX10_paste_69 rfl, r_il5 dX10_paste_72, r_if_lt (tgt := 112) dX10_paste_74 rfl, r_il2 dX10_paste_77, r_i2l dX10_paste_78, r_il5 dX10_paste_79, r_i2l dX10_paste_81, r_ladd dX10_paste_82, r_al0 dX10_paste_83, r_getf dX10_paste_84 F10_49, r_il1 dX10_paste_87, r_iald dX10_paste_88, r_i2l dX10_paste_89, r_lcmp dX10_paste_90, r_if_gt (tgt := 112) dX10_paste_91 rfl, r_il4 dX10_paste_94, r_i2l dX10_paste_96, r_il5 dX10_paste_97, r_i2l dX10_paste_99, r_ladd dX10_paste_100, r_al0 dX10_paste_101, r_getf dX10_paste_102 F10_49, r_il3 dX10_paste_105, r_iald dX10_paste_106, r_i2l dX10_paste_107, r_lcmp dX10_paste_108, r_if_le (tgt := 115) dX10_paste_109 rfl, r_bipush dX10_paste_112 kbm7, r_iret dX10_paste_114 (Nat.zero_le _) (Nat.zero_le _), r_iconst dX10_paste_115 ki0, r_is6 dX10_paste_116, List.cons_append, List.nil_append, Nat.reduceAdd, Option.toList, aI_ok, cat_f, cat_i, cat_n, cat_r, eq_self, g10_24, g10_25, true_and, z0, hM1.r, rd_own hM1.r, hM1.r24, rd_own hM1.r24, hM1.r25, rd_own hM1.r25, nI_clamp (show i < 2 ^ 31 by omega), nI_clamp (show j < 2 ^ 31 by omega), i64add_le, i64add_gt]
  refine ⟨hii, fun k => h1 i j hi hj rfl rfl (.inl k) _ _ _ hM1 KM.rf.u4 s1, fun k => ⟨hij, fun k2 => ?_, fun k2 => h1 i j hi hj rfl rfl (.inr (Classical.not_not.mp k2)) _ _ _ hM1 KM.rf.u4 s1⟩⟩
  rcases hz i hi with e | ⟨z1, hz1, ez1⟩
  · exact absurd e k
  rcases hz j hj with e | ⟨z2, hz2, ez2⟩
  · exact absurd e k2
  refine ⟨hii, hij, fun k3 => ?_, fun k3 => h2 i j hi hj rfl rfl k k2 k3 _ _ _ hM1 KM.rf.u4 s1⟩
  have h3 := fun q => h3 i j z1 z2 hi hj rfl rfl hz1 hz2 ez1 ez2 k3 q _ _ _ hM1 KM.rf.u4 s1
  have t1 : (A 24 i).toInt = z1 := by rw [ez1, nI_toInt (by omega)]
  have t2 : (A 24 j).toInt = z2 := by rw [ez2, nI_toInt (by omega)]
  refine ⟨fun c => h3 (fun q => Int32.not_lt.mpr q.1.1 c), fun c => ⟨fun c2 => h3 (fun q => Int32.not_lt.mpr q.1.2.1 c2), fun c2 => ⟨fun c3 => h3 (fun q => Int32.not_lt.mpr q.1.2.2 c3), fun c3 => ⟨hii, fun c4 => h3 (fun q => c4 (by rw [t1]; exact q.2.1)), fun c4 => ⟨hij, fun c5 => ?_, fun c5 => h3 (fun q => c5 (by rw [t2]; exact q.2.2))⟩⟩⟩⟩⟩
  obtain ⟨a', ha', rfl⟩ := nI_of c
  obtain ⟨b', hb', rfl⟩ := nI_of c2
  obtain ⟨zz, hzz, rfl⟩ := nI_of c3
  rw [nI_toInt ha', nI_toInt hzz, t1] at c4
  rw [nI_toInt hb', nI_toInt hzz, t2] at c5
  have f1 : a' + zz ≤ z1 := by omega
  have f2 : b' + zz ≤ z2 := by omega
  have hQ := hQ i j z1 z2 zz a' b' hi hj rfl rfl hz1 hz2 ez1 ez2 k3 rfl rfl rfl f1 f2
  -- the copy: x of them are done
  have fin : ∀ hm2 G, MO hm2 m (upd u 4 0) (va_up A 26 G) R → (∀ x, G x = if 12 * j + b' ≤ x ∧ x < 12 * j + b' + zz then A 26 (12 * i + a' + (x - (12 * j + b'))) else A 26 x) → sm m (m + 16) hm hm2 → Q (some (.int 0)) hm2 hs := by
    intro hm2 G hM2 hG s2
    exact hQ hm2 _ _ hM2 (fun k hk => pk_un hk) (fun s hs0 => vu_ne hs0) (fun x => by rw [vu_eq]; exact hG x) s2
  by_cases hab : a' < b'
  · suffices H : ∀ x, x ≤ zz → ∀ hm2 G y, MO hm2 m (upd u 4 0) (va_up A 26 G) R → (∀ y, G y = if 12 * j + b' + (zz - x) ≤ y ∧ y < 12 * j + b' + zz then A 26 (12 * i + a' + (y - (12 * j + b'))) else A 26 y) → sm m (m + 16) hm hm2 → E1 X EV (d + 2) 10 0 0 (some .int) false cX10_paste Q 118 [.ref m, .int (nI i), .int (nI a'), .int (nI j), .int (nI b'), .int (nI zz), .int (nI x), y] [] 0 0 hm2 hs from
      H 0 (by omega) hm1 (A 26) _ (by rw [va_self]; exact hM1) (fun y => by rw [if_neg (by omega)]) s1
    refine up_loop zz _ ?_ ?_
    · intro hm2 G y hM2 hG s2
      have := fin hm2 G hM2 (fun x => by rw [hG x, show zz - zz = 0 by omega, Nat.add_zero]) s2
      simp (disch := first | omega | (simp only [List.length_cons, List.length_nil]; omega)) only [r_il6 dX10_paste_118, r_il5 dX10_paste_120, r_ic_ge (tgt := 180) dX10_paste_122 rfl, r_il2 dX10_paste_125, r_il4 dX10_paste_126, r_ic_ge (tgt := 141) dX10_paste_128 rfl, r_il5 dX10_paste_131, r_iconst dX10_paste_133 ki1, r_isub dX10_paste_134, r_il6 dX10_paste_135, r_isub dX10_paste_137, r_goto (tgt := 143) dX10_paste_138 rfl, r_il6 dX10_paste_141, r_is7 dX10_paste_143, r_al0 dX10_paste_145, r_getf dX10_paste_146 F10_55, r_bipush dX10_paste_149 kb12, r_il3 dX10_paste_151, r_imul dX10_paste_152, r_il4 dX10_paste_153, r_iadd dX10_paste_155, r_il7 dX10_paste_156, r_iadd dX10_paste_158, r_al0 dX10_paste_159, r_getf dX10_paste_160 F10_55, r_bipush dX10_paste_163 kb12, r_il1 dX10_paste_165, r_imul dX10_paste_166, r_il2 dX10_paste_167, r_iadd dX10_paste_168, r_il7 dX10_paste_169, r_iadd dX10_paste_171, r_iald dX10_paste_172, r_iast dX10_paste_173, r_ii6 dX10_paste_174 kn1, r_gotoB (tgt := 118) dX10_paste_177 rfl, r_iconst dX10_paste_180 ki0, r_iret dX10_paste_181 (Nat.zero_le _) (Nat.zero_le _), List.cons_append, List.nil_append, Nat.reduceAdd, Option.toList, aI_ok, cat_f, cat_i, cat_n, cat_r, eq_self, g10_26, pk_un, pk_us, rd_up_eq, rd_up_ne, sI_ok, true_and, up_eq, up_ne, up_up, z0]
      exact ⟨fun _ => this, fun q => absurd (Int32.le_refl _) q⟩
    · intro x hx ih hm2 G y hM2 hG s2
      have e26 : (va_up A 26 G) 26 = G := vu_eq _ _ _
      have es : nI zz - 1 - nI x = nI (zz - 1 - x) := by rw [show (1 : Int32) = nI 1 from rfl, pk_sub (by omega), pk_sub (by omega)]
      simp (disch := first | omega | (simp only [List.length_cons, List.length_nil]; omega)) only [r_il6 dX10_paste_118, r_il5 dX10_paste_120, r_ic_ge (tgt := 180) dX10_paste_122 rfl, r_il2 dX10_paste_125, r_il4 dX10_paste_126, r_ic_ge (tgt := 141) dX10_paste_128 rfl, r_il5 dX10_paste_131, r_iconst dX10_paste_133 ki1, r_isub dX10_paste_134, r_il6 dX10_paste_135, r_isub dX10_paste_137, r_goto (tgt := 143) dX10_paste_138 rfl, r_il6 dX10_paste_141, r_is7 dX10_paste_143, r_al0 dX10_paste_145, r_getf dX10_paste_146 F10_55, r_bipush dX10_paste_149 kb12, r_il3 dX10_paste_151, r_imul dX10_paste_152, r_il4 dX10_paste_153, r_iadd dX10_paste_155, r_il7 dX10_paste_156, r_iadd dX10_paste_158, r_al0 dX10_paste_159, r_getf dX10_paste_160 F10_55, r_bipush dX10_paste_163 kb12, r_il1 dX10_paste_165, r_imul dX10_paste_166, r_il2 dX10_paste_167, r_iadd dX10_paste_168, r_il7 dX10_paste_169, r_iadd dX10_paste_171, r_iald dX10_paste_172, r_iast dX10_paste_173, r_ii6 dX10_paste_174 kn1, r_gotoB (tgt := 118) dX10_paste_177 rfl, r_iconst dX10_paste_180 ki0, r_iret dX10_paste_181 (Nat.zero_le _) (Nat.zero_le _), List.cons_append, List.nil_append, Nat.reduceAdd, Option.toList, aI_ok, cat_f, cat_i, cat_n, cat_r, eq_self, g10_26, pk_un, pk_us, rd_up_eq, rd_up_ne, sI_ok, true_and, up_eq, up_ne, up_up, z0, hM2.r, rd_own hM2.r, hM2.r26, rd_own hM2.r26, e26, s12, nI_add, es, nI_clamp (show 12 * j + b' + (zz - 1 - x) < 2 ^ 31 by omega), nI_clamp (show 12 * i + a' + (zz - 1 - x) < 2 ^ 31 by omega)]
      refine ⟨fun q => absurd ((nI_leI (by omega) (by omega)).mp q) (by omega), fun _ => ⟨fun q => absurd ((nI_leI (by omega) (by omega)).mp q) (by omega), fun _ => ⟨vp_in_nI (by omega) (by omega), vp_in_nI (by omega) (by omega), ?_⟩⟩⟩
      try simp (disch := omega) only [E2, nI_1, nI_add, nI_leI, nI_ltI, nI_eq, nI_clamp]
      have h4 := hM2.w26 (upd G (12 * j + b' + (zz - 1 - x)) (G (12 * i + a' + (zz - 1 - x))))
      rw [va_va] at h4
      refine ih _ _ _ h4 (fun y => ?_) (s2.up (by omega))
      by_cases hy : y = 12 * j + b' + (zz - 1 - x)
      · rw [hy, pk_us, if_pos (by omega), hG]
        by_cases hji : i = j
        · subst hji
          rw [if_neg (by omega)]
          congr 1
          omega
        · rw [if_neg (by omega)]
          congr 1
          omega
      · rw [pk_un hy, hG y]
        by_cases h5 : 12 * j + b' + (zz - x) ≤ y ∧ y < 12 * j + b' + zz
        · rw [if_pos h5, if_pos (by omega)]
        · rw [if_neg h5, if_neg (by omega)]
  · suffices H : ∀ x, x ≤ zz → ∀ hm2 G y, MO hm2 m (upd u 4 0) (va_up A 26 G) R → (∀ y, G y = if 12 * j + b' ≤ y ∧ y < 12 * j + b' + x then A 26 (12 * i + a' + (y - (12 * j + b'))) else A 26 y) → sm m (m + 16) hm hm2 → E1 X EV (d + 2) 10 0 0 (some .int) false cX10_paste Q 118 [.ref m, .int (nI i), .int (nI a'), .int (nI j), .int (nI b'), .int (nI zz), .int (nI x), y] [] 0 0 hm2 hs from
      H 0 (by omega) hm1 (A 26) _ (by rw [va_self]; exact hM1) (fun y => by rw [if_neg (by omega)]) s1
    refine up_loop zz _ ?_ ?_
    · intro hm2 G y hM2 hG s2
      have := fin hm2 G hM2 hG s2
      simp (disch := first | omega | (simp only [List.length_cons, List.length_nil]; omega)) only [r_il6 dX10_paste_118, r_il5 dX10_paste_120, r_ic_ge (tgt := 180) dX10_paste_122 rfl, r_il2 dX10_paste_125, r_il4 dX10_paste_126, r_ic_ge (tgt := 141) dX10_paste_128 rfl, r_il5 dX10_paste_131, r_iconst dX10_paste_133 ki1, r_isub dX10_paste_134, r_il6 dX10_paste_135, r_isub dX10_paste_137, r_goto (tgt := 143) dX10_paste_138 rfl, r_il6 dX10_paste_141, r_is7 dX10_paste_143, r_al0 dX10_paste_145, r_getf dX10_paste_146 F10_55, r_bipush dX10_paste_149 kb12, r_il3 dX10_paste_151, r_imul dX10_paste_152, r_il4 dX10_paste_153, r_iadd dX10_paste_155, r_il7 dX10_paste_156, r_iadd dX10_paste_158, r_al0 dX10_paste_159, r_getf dX10_paste_160 F10_55, r_bipush dX10_paste_163 kb12, r_il1 dX10_paste_165, r_imul dX10_paste_166, r_il2 dX10_paste_167, r_iadd dX10_paste_168, r_il7 dX10_paste_169, r_iadd dX10_paste_171, r_iald dX10_paste_172, r_iast dX10_paste_173, r_ii6 dX10_paste_174 kn1, r_gotoB (tgt := 118) dX10_paste_177 rfl, r_iconst dX10_paste_180 ki0, r_iret dX10_paste_181 (Nat.zero_le _) (Nat.zero_le _), List.cons_append, List.nil_append, Nat.reduceAdd, Option.toList, aI_ok, cat_f, cat_i, cat_n, cat_r, eq_self, g10_26, pk_un, pk_us, rd_up_eq, rd_up_ne, sI_ok, true_and, up_eq, up_ne, up_up, z0]
      exact ⟨fun _ => this, fun q => absurd (Int32.le_refl _) q⟩
    · intro x hx ih hm2 G y hM2 hG s2
      have e26 : (va_up A 26 G) 26 = G := vu_eq _ _ _
      simp (disch := first | omega | (simp only [List.length_cons, List.length_nil]; omega)) only [r_il6 dX10_paste_118, r_il5 dX10_paste_120, r_ic_ge (tgt := 180) dX10_paste_122 rfl, r_il2 dX10_paste_125, r_il4 dX10_paste_126, r_ic_ge (tgt := 141) dX10_paste_128 rfl, r_il5 dX10_paste_131, r_iconst dX10_paste_133 ki1, r_isub dX10_paste_134, r_il6 dX10_paste_135, r_isub dX10_paste_137, r_goto (tgt := 143) dX10_paste_138 rfl, r_il6 dX10_paste_141, r_is7 dX10_paste_143, r_al0 dX10_paste_145, r_getf dX10_paste_146 F10_55, r_bipush dX10_paste_149 kb12, r_il3 dX10_paste_151, r_imul dX10_paste_152, r_il4 dX10_paste_153, r_iadd dX10_paste_155, r_il7 dX10_paste_156, r_iadd dX10_paste_158, r_al0 dX10_paste_159, r_getf dX10_paste_160 F10_55, r_bipush dX10_paste_163 kb12, r_il1 dX10_paste_165, r_imul dX10_paste_166, r_il2 dX10_paste_167, r_iadd dX10_paste_168, r_il7 dX10_paste_169, r_iadd dX10_paste_171, r_iald dX10_paste_172, r_iast dX10_paste_173, r_ii6 dX10_paste_174 kn1, r_gotoB (tgt := 118) dX10_paste_177 rfl, r_iconst dX10_paste_180 ki0, r_iret dX10_paste_181 (Nat.zero_le _) (Nat.zero_le _), List.cons_append, List.nil_append, Nat.reduceAdd, Option.toList, aI_ok, cat_f, cat_i, cat_n, cat_r, eq_self, g10_26, pk_un, pk_us, rd_up_eq, rd_up_ne, sI_ok, true_and, up_eq, up_ne, up_up, z0, hM2.r, rd_own hM2.r, hM2.r26, rd_own hM2.r26, e26, s12, nI_add, nI_clamp (show 12 * j + b' + x < 2 ^ 31 by omega), nI_clamp (show 12 * i + a' + x < 2 ^ 31 by omega)]
      refine ⟨fun q => absurd ((nI_leI (by omega) (by omega)).mp q) (by omega), fun _ => ⟨fun _ => ⟨vp_in_nI (by omega) (by omega), vp_in_nI (by omega) (by omega), ?_⟩, fun q => absurd ((nI_leI (by omega) (by omega)).mpr (by omega)) q⟩⟩
      try simp (disch := omega) only [E2, nI_1, nI_add, nI_leI, nI_ltI, nI_eq, nI_clamp]
      have h4 := hM2.w26 (upd G (12 * j + b' + x) (G (12 * i + a' + x)))
      rw [va_va] at h4
      refine ih _ _ _ h4 (fun y => ?_) (s2.up (by omega))
      by_cases hy : y = 12 * j + b' + x
      · rw [hy, pk_us, if_pos (by omega), hG]
        by_cases hji : i = j
        · subst hji
          by_cases hab2 : a' = b'
          · subst hab2
            rw [if_neg (by omega)]
            congr 1
            omega
          · rw [if_neg (by omega)]
            congr 1
            omega
        · rw [if_neg (by omega)]
          congr 1
          omega
      · rw [pk_un hy, hG y]
        by_cases h5 : 12 * j + b' ≤ y ∧ y < 12 * j + b' + x
        · rw [if_pos h5, if_pos (by omega)]
        · rw [if_neg h5, if_neg (by omega)]
end M26
