section M18
variable {X : HM} {EV : Nat → Value} {d : Nat} {hm : HM} {hs : Nat} {Q : QT} {m n : Nat} {u : Nat → Int32} {A : Nat → Nat → Int32} {R : Nat → Int64} {w h nl np nw nr : Nat} {L : Nat → Nat}
theorem sumI_ext {f g : Nat → Int32} {k : Nat} (h : ∀ i, i < k → f i = g i) : sumI f k = sumI g k := by
  induction k with
  | zero => rfl
  | succ k ih => unfold sumI; rw [ih (fun i hi => h i (by omega)), h k (by omega)]
theorem m_fitMany (hM : MO hm m u A R) (hZ : MZ (A 0) n w h nl np nw nr L)
    (hQ : ∀ hm' u' A', MO hm' m u' A' R → KM u u' A A' → u' 15 = nI (wyM (A 0) n) → sm m (m + 16) hm hm' → Q (some (.int (sumI (fun q => pcnt (ftM (A 0) L n nl q)) np))) hm' hs) : CC X EV (d + 9) 251 [.ref m] hm hs Q := by
  have hW := hZ.2.2.2.2
  have hp := hW.2.1.1
  have hp8 := hW.2.1.2
  refine c_of (ls2 := [.ref m, .null, .null]) Y251 (Nat.le_of_ble_eq_true rfl) rfl I251 ?_
  simp only [r_al0 dX10_fitMany_0, List.cons_append, List.nil_append, Nat.reduceAdd, Option.toList, z0]
  refine r_iv1 dX10_fitMany_1 M10_295 Y227 O227 (Nat.le_of_ble_eq_true rfl) (rcv_own hM.r) (Nat.le_refl _) (Nat.le_refl _) ?_
  refine m_lf hM hZ (fun hm2 u2 A2 hM2 k2 l2 hF s2 => ?_)
  have hQ := hQ hm2 u2 A2 hM2 k2 l2 s2
  rw [sumI_ext (g := fun q => pcnt (A2 21 q)) (fun i hi => by rw [hF i hi])] at hQ
  rw [← k2.S] at hp
  simp only [r_iconst dX10_fitMany_4 ki0, r_is1 dX10_fitMany_5, r_iconst dX10_fitMany_6 ki0, r_is2 dX10_fitMany_7, List.cons_append, List.nil_append, Nat.reduceAdd, Option.toList, cat_f, cat_i, cat_n, cat_r, eq_self, true_and, z0]
  refine up_loop np (fun k => E1 X EV (d + 8) 10 0 0 (some .int) false cX10_fitMany Q 8 [.ref m, .int (sumI (fun q => pcnt (A2 21 q)) k), .int (nI k)] [] 0 0 hm2 hs) ?_ ?_ 0 (by omega)
  · skip
    simp only [r_il2 dX10_fitMany_8, r_al0 dX10_fitMany_9, r_getf dX10_fitMany_10 F10_13, r_iconst dX10_fitMany_13 ki4, r_iald dX10_fitMany_14, r_ic_ge (tgt := 36) dX10_fitMany_15 rfl, r_il1 dX10_fitMany_18, r_al0 dX10_fitMany_19, r_getf dX10_fitMany_20 F10_46, r_il2 dX10_fitMany_23, r_iald dX10_fitMany_24, r_il1 dX10_fitMany_36, r_iret dX10_fitMany_37 (Nat.zero_le _) (Nat.zero_le _), List.cons_append, List.nil_append, Nat.reduceAdd, Option.toList, aI_ok, g10_0, g10_21, z0, hM2.r, rd_own hM2.r, hM2.r0, rd_own hM2.r0, vs4, ck4, hp, true_and]
    exact ⟨fun _ => hQ, fun h => absurd (Int32.le_refl _) h⟩
  · intro k hk ih
    simp only [r_il2 dX10_fitMany_8, r_al0 dX10_fitMany_9, r_getf dX10_fitMany_10 F10_13, r_iconst dX10_fitMany_13 ki4, r_iald dX10_fitMany_14, r_ic_ge (tgt := 36) dX10_fitMany_15 rfl, r_il1 dX10_fitMany_18, r_al0 dX10_fitMany_19, r_getf dX10_fitMany_20 F10_46, r_il2 dX10_fitMany_23, r_iald dX10_fitMany_24, r_il1 dX10_fitMany_36, r_iret dX10_fitMany_37 (Nat.zero_le _) (Nat.zero_le _), List.cons_append, List.nil_append, Nat.reduceAdd, Option.toList, aI_ok, g10_0, g10_21, z0, hM2.r, rd_own hM2.r, hM2.r0, rd_own hM2.r0, hM2.r21, rd_own hM2.r21, vs4, ck4, hp, true_and, nI_clamp (show k < 2 ^ 31 by omega)]
    refine ⟨fun h => absurd ((nI_leI (by omega) (by omega)).mp h) (by omega), fun _ => ⟨vp_in_nI (by omega) (by omega), ?_⟩⟩
    refine r_ist1 dX10_fitMany_25 M10_224 Y263 (Nat.le_of_ble_eq_true rfl) (Nat.le_refl _) (Nat.le_refl _) ?_
    refine c_bitCount ?_
    simp only [r_iadd dX10_fitMany_28, r_is1 dX10_fitMany_29, r_ii2 dX10_fitMany_30 kn1, r_gotoB (tgt := 8) dX10_fitMany_33 rfl, List.cons_append, List.nil_append, Nat.reduceAdd, Option.toList, cat_f, cat_i, cat_n, cat_r, eq_self, true_and, z0]
    simp (disch := omega) only [E2, nI_1, nI_add, nI_leI, nI_ltI, nI_eq, nI_clamp]
    exact ih
theorem nI_ngt0 {k : Nat} (h : k < 2 ^ 31) : (nI k ≤ 0) = (k = 0) := by
  rw [show (0 : Int32) = nI 0 from rfl, nI_leI h (by omega)]; exact propext ⟨fun h => by omega, fun h => by omega⟩
theorem m_spoilt {k v : Int32} (hM : MO hm m u A R) (hZ : MZ (A 0) n w h nl np nw nr L)
    (h0 : ¬ (0 ≤ k ∧ k < nI n) → ∀ hm' u' A', MO hm' m u' A' R → KM u u' A A' → sm m (m + 16) hm hm' → Q (some (.int (-2))) hm' hs)
    (h1 : (0 ≤ k ∧ k < nI n) → ¬ (0 ≤ v ∧ v ≤ 1) → ∀ hm' u' A', MO hm' m u' A' R → KM u u' A A' → sm m (m + 16) hm hm' → Q (some (.int (-3))) hm' hs)
    (hQ : ∀ i, i < n → k = nI i → (0 ≤ v ∧ v ≤ 1) → ∀ S, S = upd (A 0) (183 + i) (v + 1) → ∀ hm' u' A', MO hm' m u' A' R → KM u u' A A' → sm m (m + 16) hm hm' → Q (some (.int (if wyM S n = 0 then 100000 else 1000 + sumI (fun q => pcnt (ftM (A 0) L n nl q)) np - sumI (fun q => pcnt (ftM S L n nl q)) np))) hm' hs) : CC X EV (d + 10) 252 [.ref m, .int k, .int v] hm hs Q := by
  obtain ⟨hn, hn12⟩ := hZ.2.2.1
  have hM1 := hM.o (upd u 4 0)
  have s1 : sm m (m + 16) hm (im_up hm m (.inr (10, fs_MO m (upd u 4 0)))) := sm.rf.up (by omega)
  refine c_of (ls2 := [.ref m, .int k, .int v, .null, .null, .null, .null]) Y252 (Nat.le_of_ble_eq_true rfl) rfl I252 ?_
  simp (disch := first | omega | (simp only [List.length_cons, List.length_nil]; omega)) only [r_al0 dX10_spoilt_0, r_iconst dX10_spoilt_1 ki0, r_putf dX10_spoilt_2 F10_1, r_al0 dX10_spoilt_5, r_il1 dX10_spoilt_6, List.cons_append, List.nil_append, Nat.reduceAdd, Option.toList, fit_i, ft10_4, p10_4, pk_un, pk_us, rd_up_eq, rd_up_ne, true_and, up_eq, up_ne, up_up, z0, hM.r, rd_own hM.r, hM.r, rd_own hM.r]
  generalize im_up hm m (.inr (10, fs_MO m (upd u 4 0))) = hm1 at hM1 s1 ⊢
  refine r_iv2 dX10_spoilt_7 M10_229 Y182 O182 (Nat.le_of_ble_eq_true rfl) (rcv_own hM1.r) (Nat.le_refl _) (Nat.le_refl _) ?_
  refine m_isStroke hM1 hn hn12 ?_
  simp only [r_if_ne (tgt := 16) dX10_spoilt_10 rfl, r_bipush dX10_spoilt_13 kbm2, r_iret dX10_spoilt_15 (Nat.zero_le _) (Nat.zero_le _), r_il2 dX10_spoilt_16, r_i2l dX10_spoilt_17, r_lconst dX10_spoilt_18 kl0, r_lconst dX10_spoilt_19 kl1, List.cons_append, List.nil_append, Nat.reduceAdd, Option.toList, z0]
  refine ⟨fun hk0 => ?_, fun hk0 => h0 (Classical.not_not.mp hk0) _ _ _ hM1 KM.rf.u4 s1⟩
  have hk0 := Classical.not_not.mp hk0
  refine r_ist3 dX10_spoilt_20 M10_83 Y155 (Nat.le_of_ble_eq_true rfl) (Nat.le_refl _) (Nat.le_refl _) ?_
  rw [l0_, show (1 : Int64) = (1 : Int32).toInt64 from rfl]
  refine m_in ?_
  simp only [r_if_ne (tgt := 29) dX10_spoilt_23 rfl, r_bipush dX10_spoilt_26 kbm3, r_iret dX10_spoilt_28 (Nat.zero_le _) (Nat.zero_le _), r_al0 dX10_spoilt_29, List.cons_append, List.nil_append, Nat.reduceAdd, Option.toList, z0]
  refine ⟨fun h2 => ?_, fun h2 => h1 hk0 (Classical.not_not.mp h2) _ _ _ hM1 KM.rf.u4 s1⟩
  obtain ⟨i, hi, rfl⟩ := ix (by omega) hk0
  have hQ := hQ i hi rfl (Classical.not_not.mp h2) _ rfl
  have hin := vp_in_nI (show 183 + i < 217 by omega) (by omega)
  refine r_iv1 dX10_spoilt_30 M10_340 Y251 O251 (Nat.le_of_ble_eq_true rfl) (rcv_own hM1.r) (Nat.le_refl _) (Nat.le_refl _) ?_
  refine m_fitMany hM1 hZ (fun hm2 u2 A2 hM2 k2 l2 s2 => ?_)
  have e0 : A2 0 = A 0 := k2.S
  simp (disch := first | omega | (simp only [List.length_cons, List.length_nil]; omega)) only [r_is3 dX10_spoilt_33, r_al0 dX10_spoilt_34, r_getf dX10_spoilt_35 F10_13, r_sipush dX10_spoilt_38 ks183, r_il1 dX10_spoilt_41, r_iadd dX10_spoilt_42, r_iald dX10_spoilt_43, r_is4 dX10_spoilt_44, r_al0 dX10_spoilt_46, r_getf dX10_spoilt_47 F10_13, r_sipush dX10_spoilt_50 ks183, r_il1 dX10_spoilt_53, r_iadd dX10_spoilt_54, r_il2 dX10_spoilt_55, r_iconst dX10_spoilt_56 ki1, r_iadd dX10_spoilt_57, r_iast dX10_spoilt_58, r_al0 dX10_spoilt_59, List.cons_append, List.nil_append, Nat.reduceAdd, Option.toList, aI_ok, cat_f, cat_i, cat_n, cat_r, eq_self, g10_0, pk_un, pk_us, rd_up_eq, rd_up_ne, sI_ok, true_and, up_eq, up_ne, up_up, z0, hM2.r, rd_own hM2.r, hM2.r0, rd_own hM2.r0, e0, s183, nI_clamp (show 183 + i < 2 ^ 31 by omega)]
  refine ⟨hin, hin, ?_⟩
  have hM3 := hM2.w0 (upd (A 0) (183 + i) (v + 1))
  have s3 := (s1.trans s2).up (a := m + 1) (c := ia 217 (upd (A 0) (183 + i) (v + 1))) (by omega)
  have hZ3 : MZ ((va_up A2 0 (upd (A 0) (183 + i) (v + 1))) 0) n w h nl np nw nr L := by
    rw [vu_eq]
    obtain ⟨⟨a1, a2⟩, ⟨b1, b2⟩, ⟨c1, c2⟩, dd, ⟨e1, e2⟩, ⟨f1, f2⟩, ⟨g1, g2⟩, ⟨i1, i2⟩, rr, ww, tt⟩ := hZ
    refine ⟨⟨(pk_un (by omega)).trans a1, a2⟩, ⟨(pk_un (by omega)).trans b1, b2⟩, ⟨(pk_un (by omega)).trans c1, c2⟩, fun k hk => ⟨(pk_un (by omega)).trans (dd k hk).1, (dd k hk).2⟩, ⟨(pk_un (by omega)).trans e1, e2⟩, ⟨(pk_un (by omega)).trans f1, f2⟩, ⟨(pk_un (by omega)).trans g1, g2⟩, ⟨(pk_un (by omega)).trans i1, i2⟩, fun r hr => ?_, fun x hx => ?_, fun k hk => ?_⟩
    · obtain ⟨f, l, p1, p2, p3⟩ := rr r hr
      exact ⟨f, l, (pk_un (by omega)).trans p1, (pk_un (by omega)).trans p2, p3⟩
    · obtain ⟨l, p1, p2, p3, p4⟩ := ww x hx
      refine ⟨l, p1, p2, (pk_un (by omega)).trans p3, fun j hj => ?_⟩
      obtain ⟨t, t1, t2⟩ := p4 j hj
      exact ⟨t, t1, (pk_un (by omega)).trans t2⟩
    · obtain ⟨y, p1, p2, p3⟩ := tt k hk
      exact ⟨y, p1, p2, (pk_un (by omega)).trans p3⟩
  refine r_iv1 dX10_spoilt_60 M10_340 Y251 O251 (Nat.le_of_ble_eq_true rfl) (rcv_own hM3.r) (Nat.le_refl _) (Nat.le_refl _) ?_
  refine m_fitMany hM3 hZ3 (fun hm4 u4 A4 hM4 k4 l4 s4 => ?_)
  have e40 : A4 0 = upd (A 0) (183 + i) (v + 1) := k4.S.trans (vu_eq _ _ _)
  rw [vu_eq] at l4 ⊢
  have eup : upd (upd (A 0) (183 + i) (v + 1)) (183 + i) (A 0 (183 + i)) = A 0 := by funext j; unfold upd; grind
  have hM5 := hM4.w0 (A 0)
  have k5 : KM u u4 A (va_up A4 0 (A 0)) := by
    refine ⟨fun k a b c e f => ?_, fun s a b c e => ?_⟩
    · rw [k4.1 k a b c e f, k2.1 k a b c e f, pk_un a]
    · by_cases hs0 : s = 0
      · rw [hs0, vu_eq]
      · rw [vu_ne hs0, k4.2 s a b c e, vu_ne hs0]; exact k2.2 s a b c e
  have hQ := hQ _ u4 _ hM5 k5 ((s3.trans s4).up (by omega))
  have hwl := wyM_lt (S := upd (A 0) (183 + i) (v + 1)) hn12
  generalize wyM (upd (A 0) (183 + i) (v + 1)) n = wn at l4 hQ hwl
  simp (disch := first | omega | (simp only [List.length_cons, List.length_nil]; omega)) only [r_is5 dX10_spoilt_63, r_al0 dX10_spoilt_65, r_getf dX10_spoilt_66 F10_212, r_if_le (tgt := 76) dX10_spoilt_69 rfl, r_iconst dX10_spoilt_72 ki1, r_goto (tgt := 77) dX10_spoilt_73 rfl, r_iconst dX10_spoilt_76 ki0, r_is6 dX10_spoilt_77, r_al0 dX10_spoilt_79, r_getf dX10_spoilt_80 F10_13, r_sipush dX10_spoilt_83 ks183, r_il1 dX10_spoilt_86, r_iadd dX10_spoilt_87, r_il4 dX10_spoilt_88, r_iast dX10_spoilt_90, r_il6 dX10_spoilt_91, r_if_eq (tgt := 107) dX10_spoilt_93 rfl, r_sipush dX10_spoilt_96 ks1000, r_il3 dX10_spoilt_99, r_iadd dX10_spoilt_100, r_il5 dX10_spoilt_101, r_isub dX10_spoilt_103, r_goto (tgt := 110) dX10_spoilt_104 rfl, r_ldcw dX10_spoilt_107 K10_343, r_iret dX10_spoilt_110 (Nat.zero_le _) (Nat.zero_le _), List.cons_append, List.nil_append, Nat.reduceAdd, Option.toList, cat_f, cat_i, cat_n, cat_r, eq_self, g10_0, g10_15, pk_un, pk_us, rd_up_eq, rd_up_ne, sI_ok, true_and, up_eq, up_ne, up_up, z0, hM4.r, rd_own hM4.r, hM4.r0, rd_own hM4.r0, l4, e40, s183, nI_clamp (show 183 + i < 2 ^ 31 by omega), eup, nI_ngt0 (show wn < 2 ^ 31 by omega)]
  refine ⟨fun h5 => ⟨hin, fun _ => ?_, fun z => absurd trivial z⟩, fun h5 => ⟨hin, fun z => absurd z (by decide), fun _ => ?_⟩⟩
  · rw [if_pos h5] at hQ; exact hQ
  · rw [if_neg h5] at hQ; exact hQ
theorem m_hiddenMany (hM : MO hm m u A R) (hn : A 0 2 = nI n) (hn12 : n ≤ 12) (hL : LN (A 0) n L) (hp : A 0 4 = nI np) (hp8 : np ≤ 8)
    (hQ : ∀ hm' u' A', MO hm' m u' A' R → KM u u' A A' → sm m (m + 16) hm hm' → Q (some (.int (sumI (fun q => pcnt (shwM (A 0) L n q 2 (-1))) np))) hm' hs) : CC X EV (d + 7) 259 [.ref m] hm hs Q := by
  refine c_of (ls2 := [.ref m, .null, .null]) Y259 (Nat.le_of_ble_eq_true rfl) rfl I259 ?_
  simp only [r_al0 dX10_hiddenMany_0, List.cons_append, List.nil_append, Nat.reduceAdd, Option.toList, z0]
  refine r_iv1 dX10_hiddenMany_1 M10_221 Y191 O191 (Nat.le_of_ble_eq_true rfl) (rcv_own hM.r) (Nat.le_refl _) (Nat.le_refl _) ?_
  refine m_lays2 hM hn hn12 (fun hm1 u1 A1 hM1 k1 l1 s1 => ?_)
  rw [← k1.S] at hn hL hp hQ
  simp only [r_iconst dX10_hiddenMany_4 ki0, r_is1 dX10_hiddenMany_5, r_iconst dX10_hiddenMany_6 ki0, r_is2 dX10_hiddenMany_7, List.cons_append, List.nil_append, Nat.reduceAdd, Option.toList, cat_f, cat_i, cat_n, cat_r, eq_self, true_and, z0]
  suffices H : ∀ k, k ≤ np → ∀ hm' u', MO hm' m u' A1 R → (∀ k, k ≠ 20 → u' k = u1 k) → sm m (m + 16) hm hm' → E1 X EV (d + 6) 10 0 0 (some .int) false cX10_hiddenMany Q 8 [.ref m, .int (sumI (fun q => pcnt (shwM (A1 0) L n q 2 (-1))) k), .int (nI k)] [] 0 0 hm' hs from
    H 0 (by omega) hm1 u1 hM1 (fun _ _ => rfl) s1
  refine up_loop np _ ?_ ?_
  · intro hm' u' hM' k' s'
    simp only [r_il2 dX10_hiddenMany_8, r_al0 dX10_hiddenMany_9, r_getf dX10_hiddenMany_10 F10_13, r_iconst dX10_hiddenMany_13 ki4, r_iald dX10_hiddenMany_14, r_ic_ge (tgt := 37) dX10_hiddenMany_15 rfl, r_il1 dX10_hiddenMany_18, r_al0 dX10_hiddenMany_19, r_il2 dX10_hiddenMany_20, r_iconst dX10_hiddenMany_21 ki2, r_iconst dX10_hiddenMany_22 kim1, r_il1 dX10_hiddenMany_37, r_iret dX10_hiddenMany_38 (Nat.zero_le _) (Nat.zero_le _), List.cons_append, List.nil_append, Nat.reduceAdd, Option.toList, aI_ok, g10_0, z0, hM'.r, rd_own hM'.r, hM'.r0, rd_own hM'.r0, vs4, ck4, hp, true_and]
    exact ⟨fun _ => hQ hm' u' A1 hM' (k1.trans ⟨fun k a b c e f => k' k c, fun s _ _ _ _ => rfl⟩) s', fun h => absurd (Int32.le_refl _) h⟩
  · intro k hk ih hm' u' hM' k' s'
    simp only [r_il2 dX10_hiddenMany_8, r_al0 dX10_hiddenMany_9, r_getf dX10_hiddenMany_10 F10_13, r_iconst dX10_hiddenMany_13 ki4, r_iald dX10_hiddenMany_14, r_ic_ge (tgt := 37) dX10_hiddenMany_15 rfl, r_il1 dX10_hiddenMany_18, r_al0 dX10_hiddenMany_19, r_il2 dX10_hiddenMany_20, r_iconst dX10_hiddenMany_21 ki2, r_iconst dX10_hiddenMany_22 kim1, r_il1 dX10_hiddenMany_37, r_iret dX10_hiddenMany_38 (Nat.zero_le _) (Nat.zero_le _), List.cons_append, List.nil_append, Nat.reduceAdd, Option.toList, aI_ok, g10_0, z0, hM'.r, rd_own hM'.r, hM'.r0, rd_own hM'.r0, vs4, ck4, hp, true_and]
    refine ⟨fun h => absurd ((nI_leI (by omega) (by omega)).mp h) (by omega), fun _ => ?_⟩
    refine r_iv4 dX10_hiddenMany_23 M10_286 Y222 O222 (Nat.le_of_ble_eq_true rfl) (rcv_own hM'.r) (Nat.le_refl _) (Nat.le_refl _) ?_
    refine m_showsOf hM' hn hn12 hL ⟨l1.1, (k' 15 (by decide)).trans l1.2.1, l1.2.2⟩ (by omega) (fun hm2 u2 hM2 k2 s2 => ?_)
    simp only [List.cons_append, List.nil_append, Nat.reduceAdd, Option.toList, z0]
    refine r_ist1 dX10_hiddenMany_26 M10_224 Y263 (Nat.le_of_ble_eq_true rfl) (Nat.le_refl _) (Nat.le_refl _) ?_
    refine c_bitCount ?_
    simp only [r_iadd dX10_hiddenMany_29, r_is1 dX10_hiddenMany_30, r_ii2 dX10_hiddenMany_31 kn1, r_gotoB (tgt := 8) dX10_hiddenMany_34 rfl, List.cons_append, List.nil_append, Nat.reduceAdd, Option.toList, cat_f, cat_i, cat_n, cat_r, eq_self, true_and, z0]
    simp (disch := omega) only [E2, nI_1, nI_add, nI_leI, nI_ltI, nI_eq, nI_clamp]
    exact ih hm2 u2 hM2 (fun k h => (k2 k h).trans (k' k h)) (s'.trans s2)
theorem m_count {wh : Int32} (hM : MO hm m u A R) (hZ : MZ (A 0) n w h nl np nw nr L)
    (hQ : ∀ hm' u' A', MO hm' m u' A' R → KM u u' A A' → sm m (m + 16) hm hm' → Q (some (.int (if wh = 0 then A 0 2 else if wh = 1 then A 0 3 else if wh = 2 then A 0 4 else if wh = 3 then A 0 5 else if wh = 4 then A 0 6 else if wh = 5 then sumI (fun k => pcnt (A 0 (195 + k))) n else if wh = 6 then u 3 else if wh = 7 then u 6 else if wh = 8 then A 0 0 else if wh = 9 then A 0 1
      else if wh = 10 then sumI (fun q => pcnt (shwM (A 0) L n q 2 (-1))) np else if wh = 11 then sumI (fun k => pcnt (acc (fun o => k ≠ o ∧ cmn (A 0) L k o ≠ -1) n)) n / 2 else if wh = 12 then nI (wcn (fun i => ¬ A 24 i = -1) 4) else -1))) hm' hs) : CC X EV (d + 8) 260 [.ref m, .int wh] hm hs Q := by
  obtain ⟨-, -, ⟨hn, hn12⟩, hL, -, ⟨hp, hp8⟩, -⟩ := hZ
  have hM1 := hM.o (upd u 4 0)
  have s1 : sm m (m + 16) hm (im_up hm m (.inr (10, fs_MO m (upd u 4 0)))) := sm.rf.up (by omega)
  refine c_of (ls2 := [.ref m, .int wh, .null, .null]) Y260 (Nat.le_of_ble_eq_true rfl) rfl I260 ?_
  simp (disch := first | omega | (simp only [List.length_cons, List.length_nil]; omega)) only [r_al0 dX10_count_0, r_iconst dX10_count_1 ki0, r_putf dX10_count_2 F10_1, r_iconst dX10_count_5 ki0, r_is2 dX10_count_6, r_il1 dX10_count_7, List.cons_append, List.nil_append, Nat.reduceAdd, Option.toList, cat_f, cat_i, cat_n, cat_r, eq_self, fit_i, ft10_4, p10_4, pk_un, pk_us, rd_up_eq, rd_up_ne, true_and, up_eq, up_ne, up_up, z0, hM.r, rd_own hM.r, hM.r, rd_own hM.r]
  generalize im_up hm m (.inr (10, fs_MO m (upd u 4 0))) = hm1 at hM1 s1 ⊢
  have hQ1 := hQ hm1 _ _ hM1 KM.rf.u4 s1
  have e3 : (upd u 4 0) 3 = u 3 := pk_un (by decide)
  have e6 : (upd u 4 0) 6 = u 6 := pk_un (by decide)
  rcases sw_case (n := 13) wh (by omega) with hsw | ⟨j, hj, rfl⟩
  · have hsw : wh.toInt < 0 ∨ 12 < wh.toInt := by omega
    rw [r_tsOut (tgt := 185) dX10_count_8 hsw rfl]
    simp only [r_iconst dX10_count_185 kim1, r_iret dX10_count_186 (Nat.zero_le _) (Nat.zero_le _), List.cons_append, List.nil_append, Nat.reduceAdd, Option.toList, z0]
    have ne : ∀ j : Nat, j < 13 → ¬ wh = nI j := fun j hj e => by rw [e, nI_toInt (by omega)] at hsw; omega
    rw [if_neg (show ¬ wh = 0 from ne 0 (by omega)), if_neg (show ¬ wh = 1 from ne 1 (by omega)), if_neg (show ¬ wh = 2 from ne 2 (by omega)), if_neg (show ¬ wh = 3 from ne 3 (by omega)), if_neg (show ¬ wh = 4 from ne 4 (by omega)), if_neg (show ¬ wh = 5 from ne 5 (by omega)), if_neg (show ¬ wh = 6 from ne 6 (by omega)), if_neg (show ¬ wh = 7 from ne 7 (by omega)), if_neg (show ¬ wh = 8 from ne 8 (by omega)), if_neg (show ¬ wh = 9 from ne 9 (by omega)), if_neg (show ¬ wh = 10 from ne 10 (by omega)), if_neg (show ¬ wh = 11 from ne 11 (by omega)), if_neg (show ¬ wh = 12 from ne 12 (by omega))] at hQ1
    exact hQ1
  · rcases (show j = 0 ∨ j = 1 ∨ j = 2 ∨ j = 3 ∨ j = 4 ∨ j = 5 ∨ j = 6 ∨ j = 7 ∨ j = 8 ∨ j = 9 ∨ j = 10 ∨ j = 11 ∨ j = 12 by omega) with e | e | e | e | e | e | e | e | e | e | e | e | e
    · subst e
      rw [r_tsIn (tgt := 76) (off := 68) dX10_count_8 (by decide) (by decide) rfl rfl]
      simp only [r_al0 dX10_count_76, r_getf dX10_count_77 F10_13, r_iconst dX10_count_80 ki2, r_il1 dX10_count_81, r_iadd dX10_count_82, r_iald dX10_count_83, r_iret dX10_count_84 (Nat.zero_le _) (Nat.zero_le _), List.cons_append, List.nil_append, Nat.reduceAdd, Option.toList, aI_ok, g10_0, z0, hM1.r, rd_own hM1.r, hM1.r0, rd_own hM1.r0, show (2 : Int32) + nI 0 = nI 2 from rfl, nI_clamp (show 2 < 2 ^ 31 by omega)]
      exact ⟨vp_in_nI (by omega) (by omega), hQ1⟩
    · subst e
      rw [r_tsIn (tgt := 76) (off := 68) dX10_count_8 (by decide) (by decide) rfl rfl]
      simp only [r_al0 dX10_count_76, r_getf dX10_count_77 F10_13, r_iconst dX10_count_80 ki2, r_il1 dX10_count_81, r_iadd dX10_count_82, r_iald dX10_count_83, r_iret dX10_count_84 (Nat.zero_le _) (Nat.zero_le _), List.cons_append, List.nil_append, Nat.reduceAdd, Option.toList, aI_ok, g10_0, z0, hM1.r, rd_own hM1.r, hM1.r0, rd_own hM1.r0, show (2 : Int32) + nI 1 = nI 3 from rfl, nI_clamp (show 3 < 2 ^ 31 by omega)]
      exact ⟨vp_in_nI (by omega) (by omega), hQ1⟩
    · subst e
      rw [r_tsIn (tgt := 76) (off := 68) dX10_count_8 (by decide) (by decide) rfl rfl]
      simp only [r_al0 dX10_count_76, r_getf dX10_count_77 F10_13, r_iconst dX10_count_80 ki2, r_il1 dX10_count_81, r_iadd dX10_count_82, r_iald dX10_count_83, r_iret dX10_count_84 (Nat.zero_le _) (Nat.zero_le _), List.cons_append, List.nil_append, Nat.reduceAdd, Option.toList, aI_ok, g10_0, z0, hM1.r, rd_own hM1.r, hM1.r0, rd_own hM1.r0, show (2 : Int32) + nI 2 = nI 4 from rfl, nI_clamp (show 4 < 2 ^ 31 by omega)]
      exact ⟨vp_in_nI (by omega) (by omega), hQ1⟩
    · subst e
      rw [r_tsIn (tgt := 76) (off := 68) dX10_count_8 (by decide) (by decide) rfl rfl]
      simp only [r_al0 dX10_count_76, r_getf dX10_count_77 F10_13, r_iconst dX10_count_80 ki2, r_il1 dX10_count_81, r_iadd dX10_count_82, r_iald dX10_count_83, r_iret dX10_count_84 (Nat.zero_le _) (Nat.zero_le _), List.cons_append, List.nil_append, Nat.reduceAdd, Option.toList, aI_ok, g10_0, z0, hM1.r, rd_own hM1.r, hM1.r0, rd_own hM1.r0, show (2 : Int32) + nI 3 = nI 5 from rfl, nI_clamp (show 5 < 2 ^ 31 by omega)]
      exact ⟨vp_in_nI (by omega) (by omega), hQ1⟩
    · subst e
      rw [r_tsIn (tgt := 76) (off := 68) dX10_count_8 (by decide) (by decide) rfl rfl]
      simp only [r_al0 dX10_count_76, r_getf dX10_count_77 F10_13, r_iconst dX10_count_80 ki2, r_il1 dX10_count_81, r_iadd dX10_count_82, r_iald dX10_count_83, r_iret dX10_count_84 (Nat.zero_le _) (Nat.zero_le _), List.cons_append, List.nil_append, Nat.reduceAdd, Option.toList, aI_ok, g10_0, z0, hM1.r, rd_own hM1.r, hM1.r0, rd_own hM1.r0, show (2 : Int32) + nI 4 = nI 6 from rfl, nI_clamp (show 6 < 2 ^ 31 by omega)]
      exact ⟨vp_in_nI (by omega) (by omega), hQ1⟩
    · subst e
      rw [r_tsIn (tgt := 85) (off := 77) dX10_count_8 (by decide) (by decide) rfl rfl]
      simp only [r_al0 dX10_count_85, List.cons_append, List.nil_append, Nat.reduceAdd, Option.toList, z0]
      refine r_iv1 dX10_count_86 M10_235 Y196 O196 (Nat.le_of_ble_eq_true rfl) (rcv_own hM1.r) (Nat.le_refl _) (Nat.le_refl _) ?_
      refine m_twos hM1 hn hn12 ?_
      simp only [r_iret dX10_count_89 (Nat.zero_le _) (Nat.zero_le _), List.cons_append, List.nil_append, Nat.reduceAdd, Option.toList, z0]
      exact hQ1
    · subst e
      rw [r_tsIn (tgt := 90) (off := 82) dX10_count_8 (by decide) (by decide) rfl rfl]
      simp only [r_al0 dX10_count_90, r_getf dX10_count_91 F10_193, r_iret dX10_count_94 (Nat.zero_le _) (Nat.zero_le _), List.cons_append, List.nil_append, Nat.reduceAdd, Option.toList, g10_3, z0, hM1.r, rd_own hM1.r, hM1.r, rd_own hM1.r, e3]
      exact hQ1
    · subst e
      rw [r_tsIn (tgt := 95) (off := 87) dX10_count_8 (by decide) (by decide) rfl rfl]
      simp only [r_al0 dX10_count_95, r_getf dX10_count_96 F10_67, r_iret dX10_count_99 (Nat.zero_le _) (Nat.zero_le _), List.cons_append, List.nil_append, Nat.reduceAdd, Option.toList, g10_6, z0, hM1.r, rd_own hM1.r, hM1.r, rd_own hM1.r, e6]
      exact hQ1
    · subst e
      rw [r_tsIn (tgt := 100) (off := 92) dX10_count_8 (by decide) (by decide) rfl rfl]
      simp only [r_al0 dX10_count_100, r_getf dX10_count_101 F10_13, r_iconst dX10_count_104 ki0, r_iald dX10_count_105, r_iret dX10_count_106 (Nat.zero_le _) (Nat.zero_le _), List.cons_append, List.nil_append, Nat.reduceAdd, Option.toList, aI_ok, g10_0, z0, hM1.r, rd_own hM1.r, hM1.r0, rd_own hM1.r0, vs0, ck0, true_and]
      exact hQ1
    · subst e
      rw [r_tsIn (tgt := 107) (off := 99) dX10_count_8 (by decide) (by decide) rfl rfl]
      simp only [r_al0 dX10_count_107, r_getf dX10_count_108 F10_13, r_iconst dX10_count_111 ki1, r_iald dX10_count_112, r_iret dX10_count_113 (Nat.zero_le _) (Nat.zero_le _), List.cons_append, List.nil_append, Nat.reduceAdd, Option.toList, aI_ok, g10_0, z0, hM1.r, rd_own hM1.r, hM1.r0, rd_own hM1.r0, vs1, ck1, true_and]
      exact hQ1
    · subst e
      rw [r_tsIn (tgt := 114) (off := 106) dX10_count_8 (by decide) (by decide) rfl rfl]
      simp only [r_al0 dX10_count_114, List.cons_append, List.nil_append, Nat.reduceAdd, Option.toList, z0]
      refine r_iv1 dX10_count_115 M10_351 Y259 O259 (Nat.le_of_ble_eq_true rfl) (rcv_own hM1.r) (Nat.le_refl _) (Nat.le_refl _) ?_
      refine m_hiddenMany hM1 hn hn12 hL hp hp8 (fun hm2 u2 A2 hM2 k2 s2 => ?_)
      simp only [r_iret dX10_count_118 (Nat.zero_le _) (Nat.zero_le _), List.cons_append, List.nil_append, Nat.reduceAdd, Option.toList, z0]
      exact hQ hm2 u2 A2 hM2 (KM.rf.u4.trans k2) (s1.trans s2)
    · subst e
      rw [r_tsIn (tgt := 119) (off := 111) dX10_count_8 (by decide) (by decide) rfl rfl]
      simp only [r_iconst dX10_count_119 ki0, r_is3 dX10_count_120, List.cons_append, List.nil_append, Nat.reduceAdd, Option.toList, cat_f, cat_i, cat_n, cat_r, eq_self, true_and, z0]
      refine up_loop n (fun k => E1 X EV (d + 7) 10 0 0 (some .int) false cX10_count Q 121 [.ref m, .int (nI 11), .int (sumI (fun k => pcnt (acc (fun o => k ≠ o ∧ cmn (A 0) L k o ≠ -1) n)) k), .int (nI k)] [] 0 0 hm1 hs) ?_ ?_ 0 (by omega)
      · skip
        simp only [r_il3 dX10_count_121, r_al0 dX10_count_122, r_getf dX10_count_123 F10_13, r_iconst dX10_count_126 ki2, r_iald dX10_count_127, r_ic_ge (tgt := 148) dX10_count_128 rfl, r_il2 dX10_count_131, r_al0 dX10_count_132, r_il3 dX10_count_133, r_il2 dX10_count_148, r_iconst dX10_count_149 ki2, r_idiv dX10_count_150, r_iret dX10_count_151 (Nat.zero_le _) (Nat.zero_le _), List.cons_append, List.nil_append, Nat.reduceAdd, Option.toList, aI_ok, g10_0, z0, hM1.r, rd_own hM1.r, hM1.r0, rd_own hM1.r0, vs2, ck2, hn, true_and]
        exact ⟨fun _ => ⟨by decide, hQ1⟩, fun h => absurd (Int32.le_refl _) h⟩
      · intro k hk ih
        simp only [r_il3 dX10_count_121, r_al0 dX10_count_122, r_getf dX10_count_123 F10_13, r_iconst dX10_count_126 ki2, r_iald dX10_count_127, r_ic_ge (tgt := 148) dX10_count_128 rfl, r_il2 dX10_count_131, r_al0 dX10_count_132, r_il3 dX10_count_133, r_il2 dX10_count_148, r_iconst dX10_count_149 ki2, r_idiv dX10_count_150, r_iret dX10_count_151 (Nat.zero_le _) (Nat.zero_le _), List.cons_append, List.nil_append, Nat.reduceAdd, Option.toList, aI_ok, g10_0, z0, hM1.r, rd_own hM1.r, hM1.r0, rd_own hM1.r0, vs2, ck2, hn, true_and]
        refine ⟨fun h => absurd ((nI_leI (by omega) (by omega)).mp h) (by omega), fun _ => ?_⟩
        refine r_iv2 dX10_count_134 M10_253 Y202 O202 (Nat.le_of_ble_eq_true rfl) (rcv_own hM1.r) (Nat.le_refl _) (Nat.le_refl _) ?_
        refine m_crossings hM1 hn hn12 hk hL ?_
        simp only [List.cons_append, List.nil_append, Nat.reduceAdd, Option.toList, z0]
        refine r_ist1 dX10_count_137 M10_224 Y263 (Nat.le_of_ble_eq_true rfl) (Nat.le_refl _) (Nat.le_refl _) ?_
        refine c_bitCount ?_
        simp only [r_iadd dX10_count_140, r_is2 dX10_count_141, r_ii3 dX10_count_142 kn1, r_gotoB (tgt := 121) dX10_count_145 rfl, List.cons_append, List.nil_append, Nat.reduceAdd, Option.toList, cat_f, cat_i, cat_n, cat_r, eq_self, true_and, z0]
        simp (disch := omega) only [E2, nI_1, nI_add, nI_leI, nI_ltI, nI_eq, nI_clamp]
        exact ih
    · subst e
      rw [r_tsIn (tgt := 152) (off := 144) dX10_count_8 (by decide) (by decide) rfl rfl]
      simp only [r_iconst dX10_count_152 ki0, r_is3 dX10_count_153, List.cons_append, List.nil_append, Nat.reduceAdd, Option.toList, cat_f, cat_i, cat_n, cat_r, eq_self, true_and, z0]
      refine up_loop 4 (fun k => E1 X EV (d + 7) 10 0 0 (some .int) false cX10_count Q 154 [.ref m, .int (nI 12), .int (nI (wcn (fun i => ¬ A 24 i = -1) k)), .int (nI k)] [] 0 0 hm1 hs) ?_ ?_ 0 (by omega)
      · skip
        simp only [r_il3 dX10_count_154, r_iconst dX10_count_155 ki4, r_ic_ge (tgt := 183) dX10_count_156 rfl, r_il2 dX10_count_159, r_al0 dX10_count_160, r_getf dX10_count_161 F10_49, r_il3 dX10_count_164, r_iald dX10_count_165, r_iconst dX10_count_166 kim1, r_ic_ne (tgt := 174) dX10_count_167 rfl, r_iconst dX10_count_170 ki0, r_goto (tgt := 175) dX10_count_171 rfl, r_iconst dX10_count_174 ki1, r_iadd dX10_count_175, r_is2 dX10_count_176, r_ii3 dX10_count_177 kn1, r_gotoB (tgt := 154) dX10_count_180 rfl, r_il2 dX10_count_183, r_iret dX10_count_184 (Nat.zero_le _) (Nat.zero_le _), List.cons_append, List.nil_append, Nat.reduceAdd, Option.toList, aI_ok, cat_f, cat_i, cat_n, cat_r, eq_self, g10_24, true_and, z0]
        exact ⟨fun _ => hQ1, fun h => absurd (by decide) h⟩
      · intro k hk ih
        have hwl := wcn_le (fun i => ¬ A 24 i = -1) k
        simp only [r_il3 dX10_count_154, r_iconst dX10_count_155 ki4, r_ic_ge (tgt := 183) dX10_count_156 rfl, r_il2 dX10_count_159, r_al0 dX10_count_160, r_getf dX10_count_161 F10_49, r_il3 dX10_count_164, r_iald dX10_count_165, r_iconst dX10_count_166 kim1, r_ic_ne (tgt := 174) dX10_count_167 rfl, r_iconst dX10_count_170 ki0, r_goto (tgt := 175) dX10_count_171 rfl, r_iconst dX10_count_174 ki1, r_iadd dX10_count_175, r_is2 dX10_count_176, r_ii3 dX10_count_177 kn1, r_gotoB (tgt := 154) dX10_count_180 rfl, r_il2 dX10_count_183, r_iret dX10_count_184 (Nat.zero_le _) (Nat.zero_le _), List.cons_append, List.nil_append, Nat.reduceAdd, Option.toList, aI_ok, cat_f, cat_i, cat_n, cat_r, eq_self, g10_24, true_and, z0, hM1.r, rd_own hM1.r, hM1.r24, rd_own hM1.r24, nI_clamp (show k < 2 ^ 31 by omega)]
        refine ⟨fun h => absurd ((nI_leI (a := 4) (by omega) (by omega)).mp h) (by omega), fun _ => ⟨vp_in_nI (by omega) (by omega), fun h2 => ?_, fun h2 => ?_⟩⟩
        · rw [wcn, if_pos h2] at ih
          simp (disch := omega) only [E2, nI_1, nI_add, nI_leI, nI_ltI, nI_eq, nI_clamp]
          exact ih
        · rw [wcn, if_neg h2] at ih
          simp (disch := omega) only [E2, nI_1, nI_add, nI_leI, nI_ltI, nI_eq, nI_clamp]
          rw [show nI (wcn (fun i => ¬ A 24 i = -1) k) + 0 = nI (wcn (fun i => ¬ A 24 i = -1) k) from nI_add _ 0]
          exact ih
end M18
