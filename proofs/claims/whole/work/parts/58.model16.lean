section M16
variable {X : HM} {EV : Nat → Value} {d : Nat} {hm : HM} {hs : Nat} {Q : QT} {m n : Nat} {u : Nat → Int32} {A : Nat → Nat → Int32} {R : Nat → Int64} {w h nl np nw nr : Nat} {L : Nat → Nat}
theorem m_productOf {x l : Nat} (hM : MO hm m u A R) (hx : x < 12) (e1 : A 0 (91 + 7 * x) = nI l) (hl6 : l ≤ 6) (hlt : ∀ i, i < l → ∃ t, t < 10 ∧ A 0 (91 + 7 * x + 1 + i) = nI t) (hQ : Q (some (.long (prodL (sV (A 0)) x l))) hm hs) : CC X EV (d + 1) 237 [.ref m, .int (nI x)] hm hs Q := by
  have hiw := vp_in_nI (show 91 + 7 * x < 217 by omega) (by omega)
  refine c_of (ls2 := [.ref m, .int (nI x), .null, .null, .null]) Y237 (Nat.le_of_ble_eq_true rfl) rfl I237 ?_
  simp only [r_lconst dX10_productOf_0 kl1, r_ls2 dX10_productOf_1, r_iconst dX10_productOf_2 ki0, r_is4 dX10_productOf_3, List.cons_append, List.nil_append, Nat.reduceAdd, Option.toList, cat_f, cat_i, cat_n, cat_r, eq_self, true_and, z0]
  refine up_loop l (fun k => E1 X EV d 10 0 0 (some .long) false cX10_productOf Q 5 [.ref m, .int (nI x), .long (prodL (sV (A 0)) x k), .null, .int (nI k)] [] 0 0 hm hs) ?_ ?_ 0 (by omega)
  · skip
    simp only [r_il4 dX10_productOf_5, r_al0 dX10_productOf_7, r_getf dX10_productOf_8 F10_13, r_bipush dX10_productOf_11 kb91, r_bipush dX10_productOf_13 kb7, r_il1 dX10_productOf_15, r_imul dX10_productOf_16, r_iadd dX10_productOf_17, r_iald dX10_productOf_18, r_ic_ge (tgt := 58) dX10_productOf_19 rfl, r_ll2 dX10_productOf_22, r_al0 dX10_productOf_23, r_getf dX10_productOf_24 F10_13, r_sipush dX10_productOf_27 ks207, r_al0 dX10_productOf_30, r_getf dX10_productOf_31 F10_13, r_bipush dX10_productOf_34 kb91, r_bipush dX10_productOf_36 kb7, r_il1 dX10_productOf_38, r_imul dX10_productOf_39, r_iadd dX10_productOf_40, r_iconst dX10_productOf_41 ki1, r_iadd dX10_productOf_42, r_il4 dX10_productOf_43, r_iadd dX10_productOf_45, r_iald dX10_productOf_46, r_iadd dX10_productOf_47, r_iald dX10_productOf_48, r_i2l dX10_productOf_49, r_lmul dX10_productOf_50, r_ls2 dX10_productOf_51, r_ii4 dX10_productOf_52 kn1, r_gotoB (tgt := 5) dX10_productOf_55 rfl, r_ll2 dX10_productOf_58, r_lret dX10_productOf_59 (Nat.zero_le _) (Nat.zero_le _), List.cons_append, List.nil_append, Nat.reduceAdd, Option.toList, aI_ok, cat_f, cat_i, cat_n, cat_r, eq_self, g10_0, true_and, z0, hM.r, rd_own hM.r, hM.r0, rd_own hM.r0, s91, nI_clamp (show 91 + 7 * x < 2 ^ 31 by omega), e1]
    exact ⟨hiw, fun _ => hQ, fun h => absurd (Int32.le_refl _) h⟩
  · intro k hk ih
    obtain ⟨t, ht, et⟩ := hlt k hk
    simp only [r_il4 dX10_productOf_5, r_al0 dX10_productOf_7, r_getf dX10_productOf_8 F10_13, r_bipush dX10_productOf_11 kb91, r_bipush dX10_productOf_13 kb7, r_il1 dX10_productOf_15, r_imul dX10_productOf_16, r_iadd dX10_productOf_17, r_iald dX10_productOf_18, r_ic_ge (tgt := 58) dX10_productOf_19 rfl, r_ll2 dX10_productOf_22, r_al0 dX10_productOf_23, r_getf dX10_productOf_24 F10_13, r_sipush dX10_productOf_27 ks207, r_al0 dX10_productOf_30, r_getf dX10_productOf_31 F10_13, r_bipush dX10_productOf_34 kb91, r_bipush dX10_productOf_36 kb7, r_il1 dX10_productOf_38, r_imul dX10_productOf_39, r_iadd dX10_productOf_40, r_iconst dX10_productOf_41 ki1, r_iadd dX10_productOf_42, r_il4 dX10_productOf_43, r_iadd dX10_productOf_45, r_iald dX10_productOf_46, r_iadd dX10_productOf_47, r_iald dX10_productOf_48, r_i2l dX10_productOf_49, r_lmul dX10_productOf_50, r_ls2 dX10_productOf_51, r_ii4 dX10_productOf_52 kn1, r_gotoB (tgt := 5) dX10_productOf_55 rfl, r_ll2 dX10_productOf_58, r_lret dX10_productOf_59 (Nat.zero_le _) (Nat.zero_le _), List.cons_append, List.nil_append, Nat.reduceAdd, Option.toList, aI_ok, cat_f, cat_i, cat_n, cat_r, eq_self, g10_0, true_and, z0, hM.r, rd_own hM.r, hM.r0, rd_own hM.r0, s91, s207, nI_1, nI_add, nI_clamp (show 91 + 7 * x < 2 ^ 31 by omega), nI_clamp (show 91 + 7 * x + 1 + k < 2 ^ 31 by omega), e1, et, nI_clamp (show 207 + t < 2 ^ 31 by omega)]
    refine ⟨hiw, fun h => absurd ((nI_leI (by omega) (by omega)).mp h) (by omega), fun _ => ⟨vp_in_nI (by omega) (by omega), vp_in_nI (by omega) (by omega), ?_⟩⟩
    simp (disch := omega) only [E2, nI_1, nI_add, nI_leI, nI_ltI, nI_eq, nI_clamp]
    unfold prodL at ih
    rw [sV11 (by omega), et, nI_clamp (by omega)] at ih
    exact ih
theorem m_likely {r : Int32} (hM : MO hm m u A R) (hZ : MZ (A 0) n w h nl np nw nr L)
    (h0 : ¬ (0 ≤ r ∧ r < nI nr) → ∀ hm' u' A', MO hm' m u' A' R → KM u u' A A' → sm m (m + 16) hm hm' → Q (some (.int (-2))) hm' hs)
    (hQ : ∀ i f l, i < nr → r = nI i → A 0 (175 + 2 * i) = nI f → A 0 (175 + 2 * i + 1) = nI l → f + l ≤ np → l ≤ 6 → ∀ hm' u' A', MO hm' m u' A' R → KM u u' A A' → sm m (m + 16) hm hm' → ∀ F, (∀ q, q < np → F q = ftM (A 0) L n nl q) →
      Q (some (.int (likm (wfP (sV (A 0)) F i f l) (fun x => prodL (sV (A 0)) x l) nw))) hm' hs) : CC X EV (d + 9) 238 [.ref m, .int r] hm hs Q := by
  have hW := hZ.2.2.2.2
  have hr4 := hW.2.2.2.1.2
  have hw := hW.2.2.1.1
  have hw12 := hW.2.2.1.2
  have hp8 := hW.2.1.2
  have hM1 := hM.o (upd u 4 0)
  have s1 : sm m (m + 16) hm (im_up hm m (.inr (10, fs_MO m (upd u 4 0)))) := sm.rf.up (by omega)
  refine c_of (ls2 := [.ref m, .int r, .null, .null]) Y238 (Nat.le_of_ble_eq_true rfl) rfl I238 ?_
  simp (disch := first | omega | (simp only [List.length_cons, List.length_nil]; omega)) only [r_al0 dX10_likely_0, r_iconst dX10_likely_1 ki0, r_putf dX10_likely_2 F10_1, r_al0 dX10_likely_5, r_il1 dX10_likely_6, List.cons_append, List.nil_append, Nat.reduceAdd, Option.toList, fit_i, ft10_4, p10_4, pk_un, pk_us, rd_up_eq, rd_up_ne, true_and, up_eq, up_ne, up_up, z0, hM.r, rd_own hM.r, hM.r, rd_own hM.r]
  generalize im_up hm m (.inr (10, fs_MO m (upd u 4 0))) = hm1 at hM1 s1 ⊢
  refine r_iv2 dX10_likely_7 M10_304 Y235 O235 (Nat.le_of_ble_eq_true rfl) (rcv_own hM1.r) (Nat.le_refl _) (Nat.le_refl _) ?_
  refine m_isRun hM1 hW.2.2.2.1.1 (by omega) ?_
  simp only [r_if_ne (tgt := 16) dX10_likely_10 rfl, r_bipush dX10_likely_13 kbm2, r_iret dX10_likely_15 (Nat.zero_le _) (Nat.zero_le _), r_al0 dX10_likely_16, List.cons_append, List.nil_append, Nat.reduceAdd, Option.toList, z0]
  refine ⟨fun h => ?_, fun h => h0 (Classical.not_not.mp h) _ _ _ hM1 KM.rf.u4 s1⟩
  obtain ⟨i, hi, rfl⟩ := ix (by omega) (Classical.not_not.mp h)
  obtain ⟨f, l, ef, el, g1, g2, g3⟩ := hW.2.2.2.2.1 i hi
  refine r_iv1 dX10_likely_17 M10_295 Y227 O227 (Nat.le_of_ble_eq_true rfl) (rcv_own hM1.r) (Nat.le_refl _) (Nat.le_refl _) ?_
  refine m_lf hM1 hZ (fun hm2 u2 A2 hM2 k2 l2 hF s2 => ?_)
  have hQ := hQ i f l hi rfl ef el g1 g3 hm2 u2 A2 hM2 (KM.rf.u4.trans k2) (s1.trans s2) (A2 21) hF
  have e0 : A2 0 = A 0 := k2.S
  rw [← e0] at hW hw ef el hQ
  simp only [r_iconst dX10_likely_20 kim1, r_is2 dX10_likely_21, r_iconst dX10_likely_22 ki0, r_is3 dX10_likely_23, List.cons_append, List.nil_append, Nat.reduceAdd, Option.toList, cat_f, cat_i, cat_n, cat_r, eq_self, true_and, z0]
  refine up_loop nw (fun j => E1 X EV (d + 8) 10 0 0 (some .int) false cX10_likely Q 24 [.ref m, .int (nI i), .int (likm (wfP (sV (A2 0)) (A2 21) i f l) (fun x => prodL (sV (A2 0)) x l) j), .int (nI j)] [] 0 0 hm2 hs) ?_ ?_ 0 (by omega)
  · skip
    simp only [r_il3 dX10_likely_24, r_al0 dX10_likely_25, r_getf dX10_likely_26 F10_13, r_iconst dX10_likely_29 ki5, r_iald dX10_likely_30, r_ic_ge (tgt := 70) dX10_likely_31 rfl, r_al0 dX10_likely_34, r_il3 dX10_likely_35, r_il1 dX10_likely_36, r_il2 dX10_likely_70, r_iret dX10_likely_71 (Nat.zero_le _) (Nat.zero_le _), List.cons_append, List.nil_append, Nat.reduceAdd, Option.toList, aI_ok, g10_0, z0, hM2.r, rd_own hM2.r, hM2.r0, rd_own hM2.r0, vs5, ck5, hw, true_and]
    exact ⟨fun _ => hQ, fun h => absurd (Int32.le_refl _) h⟩
  · intro j hj ih
    have hlt := wfP_lt (F := A2 21) hW hj el g3
    simp only [r_il3 dX10_likely_24, r_al0 dX10_likely_25, r_getf dX10_likely_26 F10_13, r_iconst dX10_likely_29 ki5, r_iald dX10_likely_30, r_ic_ge (tgt := 70) dX10_likely_31 rfl, r_al0 dX10_likely_34, r_il3 dX10_likely_35, r_il1 dX10_likely_36, r_il2 dX10_likely_70, r_iret dX10_likely_71 (Nat.zero_le _) (Nat.zero_le _), List.cons_append, List.nil_append, Nat.reduceAdd, Option.toList, aI_ok, g10_0, z0, hM2.r, rd_own hM2.r, hM2.r0, rd_own hM2.r0, vs5, ck5, hw, true_and]
    refine ⟨fun h => absurd ((nI_leI (by omega) (by omega)).mp h) (by omega), fun _ => ?_⟩
    refine r_iv3 dX10_likely_37 M10_292 Y228 O228 (Nat.le_of_ble_eq_true rfl) (rcv_own hM2.r) (Nat.le_refl _) (Nat.le_refl _) ?_
    refine m_fitsRun hM2 (by omega) (by omega) ef el (by omega) g3 hlt ?_
    have a64 : ∀ z, E1 X EV (d + 8) 10 0 0 (some .int) false cX10_likely Q 24 [.ref m, .int (nI i), .int z, .int (nI (j + 1))] [] 0 0 hm2 hs → E1 X EV (d + 8) 10 0 0 (some .int) false cX10_likely Q 64 [.ref m, .int (nI i), .int z, .int (nI j)] [] 0 0 hm2 hs := by
      intro z hz
      simp only [r_ii3 dX10_likely_64 kn1, r_gotoB (tgt := 24) dX10_likely_67 rfl, List.cons_append, List.nil_append, Nat.reduceAdd, Option.toList, cat_f, cat_i, cat_n, cat_r, eq_self, true_and, z0]
      simp (disch := omega) only [E2, nI_1, nI_add, nI_leI, nI_ltI, nI_eq, nI_clamp]
      exact hz
    have a62 : ∀ z, E1 X EV (d + 8) 10 0 0 (some .int) false cX10_likely Q 24 [.ref m, .int (nI i), .int (nI j), .int (nI (j + 1))] [] 0 0 hm2 hs → E1 X EV (d + 8) 10 0 0 (some .int) false cX10_likely Q 62 [.ref m, .int (nI i), .int z, .int (nI j)] [] 0 0 hm2 hs := by
      intro z hz
      simp only [r_il3 dX10_likely_62, r_is2 dX10_likely_63, r_ii3 dX10_likely_64 kn1, r_gotoB (tgt := 24) dX10_likely_67 rfl, List.cons_append, List.nil_append, Nat.reduceAdd, Option.toList, cat_f, cat_i, cat_n, cat_r, eq_self, true_and, z0]
      simp (disch := omega) only [E2, nI_1, nI_add, nI_leI, nI_ltI, nI_eq, nI_clamp]
      exact hz
    simp only [r_if_eqB (tgt := 64) dX10_likely_40 rfl, r_il2 dX10_likely_43, r_iconst dX10_likely_44 kim1, r_ic_eqB (tgt := 62) dX10_likely_45 rfl, r_al0 dX10_likely_48, r_il3 dX10_likely_49, List.cons_append, List.nil_append, Nat.reduceAdd, Option.toList, z0]
    unfold likm at ih
    refine ⟨fun h => ?_, fun h => ⟨fun h2 => ?_, fun h2 => ?_⟩⟩
    · rw [if_neg (fun z => h z.1)] at ih
      simp (disch := omega) only [E2, nI_1, nI_add, nI_leI, nI_ltI, nI_eq, nI_clamp]
      exact a64 _ ih
    · rw [if_pos ⟨Classical.not_not.mp h, .inl h2⟩] at ih
      simp (disch := omega) only [E2, nI_1, nI_add, nI_leI, nI_ltI, nI_eq, nI_clamp]
      exact a62 _ ih
    · rcases likm_cases (wfP (sV (A2 0)) (A2 21) i f l) (fun x => prodL (sV (A2 0)) x l) j with e | ⟨x, hx, e, hcx⟩
      · exact absurd e h2
      · rw [e] at ih ⊢
        have h := Classical.not_not.mp h
        refine r_iv2 dX10_likely_50 M10_307 Y237 O237 (Nat.le_of_ble_eq_true rfl) (rcv_own hM2.r) (Nat.le_refl _) (Nat.le_refl _) ?_
        refine m_productOf hM2 (by omega) (h.1.trans el) g3 (hlt h.1) ?_
        simp only [r_al0 dX10_likely_53, r_il2 dX10_likely_54, List.cons_append, List.nil_append, Nat.reduceAdd, Option.toList, z0]
        refine r_iv2 dX10_likely_55 M10_307 Y237 O237 (Nat.le_of_ble_eq_true rfl) (rcv_own hM2.r) (Nat.le_refl _) (Nat.le_refl _) ?_
        refine m_productOf hM2 (by omega) (hcx.1.trans el) g3 (wfP_lt (F := A2 21) hW (by omega) el g3 hcx.1) ?_
        simp only [r_lcmp dX10_likely_58, r_if_leB (tgt := 64) dX10_likely_59 rfl, List.cons_append, List.nil_append, Nat.reduceAdd, Option.toList, z0, lg_le0]
        refine ⟨fun h3 => ?_, fun h3 => ?_⟩
        · rw [if_neg (fun z => by
            rcases z.2 with q | q
            · exact nI_nm1 (by omega) q
            · rw [nI_clamp (by omega)] at q
              exact h3 q)] at ih
          simp (disch := omega) only [E2, nI_1, nI_add, nI_leI, nI_ltI, nI_eq, nI_clamp]
          exact a64 _ ih
        · rw [if_pos ⟨h, .inr (by rw [nI_clamp (by omega)]; exact Classical.not_not.mp h3)⟩] at ih
          exact a62 _ ih
/-- how a place reads, as the model says it -/
def rdM (S : Nat → Int32) (T : Int32) : Int32 := if T = 0 then 63 else if 1 < pcnt T then 46 else sV S 4 (ntz T).toNatClampNeg
theorem m_reads {q : Int32} (hM : MO hm m u A R) (hZ : MZ (A 0) n w h nl np nw nr L)
    (h0 : q < -1 → ∀ hm' u' A', MO hm' m u' A' R → KM u u' A A' → sm m (m + 16) hm hm' → Q (some (.int (-3))) hm' hs)
    (h1 : q = -1 → ∀ hm' u' A', MO hm' m u' A' R → KM u u' A A' → sm m (m + 16) hm hm' → Q (some (.int (nI np))) hm' hs)
    (h2 : ¬ q < -1 → ¬ q = -1 → ¬ q < nI np → ∀ hm' u' A', MO hm' m u' A' R → KM u u' A A' → sm m (m + 16) hm hm' → Q (some (.int (-1))) hm' hs)
    (hQ : ∀ i, i < np → q = nI i → ∀ hm' u' A', MO hm' m u' A' R → KM u u' A A' → sm m (m + 16) hm hm' → Q (some (.int (rdM (A 0) (surM (A 0) (ftM (A 0) L n nl) nw nr i)))) hm' hs) : CC X EV (d + 9) 243 [.ref m, .int q] hm hs Q := by
  have hW := hZ.2.2.2.2
  have hp := hW.2.1.1
  have hp8 := hW.2.1.2
  have hl10 := hW.1.2
  have hM1 := hM.o (upd u 4 0)
  have s1 : sm m (m + 16) hm (im_up hm m (.inr (10, fs_MO m (upd u 4 0)))) := sm.rf.up (by omega)
  refine c_of (ls2 := [.ref m, .int q]) Y243 (Nat.le_of_ble_eq_true rfl) rfl I243 ?_
  simp (disch := first | omega | (simp only [List.length_cons, List.length_nil]; omega)) only [r_al0 dX10_reads_0, r_iconst dX10_reads_1 ki0, r_putf dX10_reads_2 F10_1, r_il1 dX10_reads_5, r_iconst dX10_reads_6 kim1, r_ic_ge (tgt := 13) dX10_reads_7 rfl, r_bipush dX10_reads_10 kbm3, r_iret dX10_reads_12 (Nat.zero_le _) (Nat.zero_le _), r_al0 dX10_reads_13, List.cons_append, List.nil_append, Nat.reduceAdd, Option.toList, fit_i, ft10_4, p10_4, pk_un, pk_us, rd_up_eq, rd_up_ne, true_and, up_eq, up_ne, up_up, z0, hM.r, rd_own hM.r, hM.r, rd_own hM.r]
  generalize im_up hm m (.inr (10, fs_MO m (upd u 4 0))) = hm1 at hM1 s1 ⊢
  refine ⟨fun h => ?_, fun h => h0 (Int32.not_le.mp h) _ _ _ hM1 KM.rf.u4 s1⟩
  refine r_iv1 dX10_reads_14 M10_295 Y227 O227 (Nat.le_of_ble_eq_true rfl) (rcv_own hM1.r) (Nat.le_refl _) (Nat.le_refl _) ?_
  refine m_lf hM1 hZ (fun hm2 u2 A2 hM2 k2 l2 hF s2 => ?_)
  have e0 : A2 0 = A 0 := k2.S
  rw [← e0] at hp
  simp only [r_il1 dX10_reads_17, r_iconst dX10_reads_18 kim1, r_ic_ne (tgt := 31) dX10_reads_19 rfl, r_al0 dX10_reads_22, r_getf dX10_reads_23 F10_13, r_iconst dX10_reads_26 ki4, r_iald dX10_reads_27, r_goto (tgt := 50) dX10_reads_28 rfl, r_il1 dX10_reads_31, r_al0 dX10_reads_32, r_getf dX10_reads_33 F10_13, r_iconst dX10_reads_36 ki4, r_iald dX10_reads_37, r_ic_ge (tgt := 49) dX10_reads_38 rfl, r_al0 dX10_reads_41, r_il1 dX10_reads_42, r_iconst dX10_reads_49 kim1, r_iret dX10_reads_50 (Nat.zero_le _) (Nat.zero_le _), List.cons_append, List.nil_append, Nat.reduceAdd, Option.toList, aI_ok, g10_0, z0, hM2.r, rd_own hM2.r, hM2.r0, rd_own hM2.r0, vs4, ck4, hp, true_and]
  refine ⟨fun h3 => ⟨fun h4 => h2 (Int32.not_lt.mpr h) h3 (Int32.not_lt.mpr h4) _ _ _ hM2 (KM.rf.u4.trans k2) (s1.trans s2), fun h4 => ?_⟩, fun h3 => h1 (Classical.not_not.mp h3) _ _ _ hM2 (KM.rf.u4.trans k2) (s1.trans s2)⟩
  obtain ⟨i, hi, rfl⟩ := ix (k := q) (n := np) (by omega) ⟨by
    rw [Int32.le_iff_toInt_le] at h ⊢
    have h5 : q.toInt ≠ -1 := fun z => h3 (Int32.toInt_inj.mp z)
    have e1 : (-1 : Int32).toInt = -1 := by decide
    have e2 : (0 : Int32).toInt = 0 := by decide
    omega, Int32.not_le.mp h4⟩
  have hQ := hQ i hi rfl hm2 u2 A2 hM2 (KM.rf.u4.trans k2) (s1.trans s2)
  refine r_iv2 dX10_reads_43 M10_323 Y242 O242 (Nat.le_of_ble_eq_true rfl) (rcv_own hM2.r) (Nat.le_refl _) (Nat.le_refl _) ?_
  refine c_of (ls2 := [.ref m, .int (nI i), .null]) Y242 (Nat.le_of_ble_eq_true rfl) rfl I242 ?_
  simp only [r_al0 dX10_readOf_0, r_il1 dX10_readOf_1, List.cons_append, List.nil_append, Nat.reduceAdd, Option.toList, z0]
  refine r_iv2 dX10_readOf_2 M10_298 Y229 O229 (Nat.le_of_ble_eq_true rfl) (rcv_own hM2.r) (Nat.le_refl _) (Nat.le_refl _) ?_
  refine m_sf hM2 e0 hW hF hi ?_
  have hhi : ∀ i', nl ≤ i' → i' < 32 → bt (surM (A 0) (ftM (A 0) L n nl) nw nr i) i' = false := fun i' a b => surM_hi hW a b
  generalize surM (A 0) (ftM (A 0) L n nl) nw nr i = T at hQ hhi ⊢
  simp only [r_is2 dX10_readOf_5, r_il2 dX10_readOf_6, r_if_ne (tgt := 13) dX10_readOf_7 rfl, r_bipush dX10_readOf_10 kb63, r_iret dX10_readOf_12 (Nat.zero_le _) (Nat.zero_le _), r_il2 dX10_readOf_13, List.cons_append, List.nil_append, Nat.reduceAdd, Option.toList, cat_f, cat_i, cat_n, cat_r, eq_self, true_and, z0]
  unfold rdM at hQ
  refine ⟨fun h5 => ?_, fun h5 => ?_⟩
  · rw [if_neg h5] at hQ
    obtain ⟨z1, z2, z3⟩ := ntz_b (x := T) (fun i' a b => hhi i' (by omega) b) h5
    have z4 : fstN (fun k => bt T k = true) 12 < 10 := by
      have := fstN_lt z3
      refine Classical.byContradiction fun hh => ?_
      rw [hhi _ (by omega) (by omega)] at this
      cases this
    rw [z1, nI_clamp (by omega)] at hQ
    generalize fstN (fun k => bt T k = true) 12 = z at z1 z3 z4 hQ
    refine r_ist1 dX10_readOf_14 M10_224 Y263 (Nat.le_of_ble_eq_true rfl) (Nat.le_refl _) (Nat.le_refl _) ?_
    refine c_bitCount ?_
    simp only [r_iconst dX10_readOf_17 ki1, r_ic_le (tgt := 26) dX10_readOf_18 rfl, r_bipush dX10_readOf_21 kb46, r_goto (tgt := 43) dX10_readOf_23 rfl, r_bipush dX10_readOf_26 kb96, r_al0 dX10_readOf_28, r_getf dX10_readOf_29 F10_13, r_bipush dX10_readOf_32 kb55, r_iconst dX10_readOf_34 ki2, r_il2 dX10_readOf_35, r_iret dX10_readOf_43 (Nat.zero_le _) (Nat.zero_le _), List.cons_append, List.nil_append, Nat.reduceAdd, Option.toList, g10_0, z0, hM2.r, rd_own hM2.r, hM2.r0, rd_own hM2.r0]
    refine ⟨fun h6 => ?_, fun h6 => ?_⟩
    · rw [if_neg (Int32.not_lt.mpr h6)] at hQ
      refine r_ist1 dX10_readOf_36 M10_320 Y262 (Nat.le_of_ble_eq_true rfl) (Nat.le_refl _) (Nat.le_refl _) ?_
      refine c_ntz ?_
      rw [z1]
      simp only [r_imul dX10_readOf_39, r_iadd dX10_readOf_40, r_iald dX10_readOf_41, r_iadd dX10_readOf_42, r_iret dX10_readOf_43 (Nat.zero_le _) (Nat.zero_le _), List.cons_append, List.nil_append, Nat.reduceAdd, Option.toList, aI_ok, z0, hM2.r, rd_own hM2.r, hM2.r0, rd_own hM2.r0, s55, nI_clamp (show 55 + 2 * z < 2 ^ 31 by omega)]
      refine ⟨vp_in_nI (by omega) (by omega), ?_⟩
      simp only [r_goto (tgt := 50) dX10_reads_46 rfl, r_iret dX10_reads_50 (Nat.zero_le _) (Nat.zero_le _), List.cons_append, List.nil_append, Nat.reduceAdd, Option.toList, z0]
      rw [e0, Int32.add_comm]
      exact hQ
    · rw [if_pos (Int32.not_le.mp h6)] at hQ
      simp only [r_goto (tgt := 50) dX10_reads_46 rfl, r_iret dX10_reads_50 (Nat.zero_le _) (Nat.zero_le _), List.cons_append, List.nil_append, Nat.reduceAdd, Option.toList, z0]
      exact hQ
  · rw [if_pos (Classical.not_not.mp h5)] at hQ
    simp only [r_goto (tgt := 50) dX10_reads_46 rfl, r_iret dX10_reads_50 (Nat.zero_le _) (Nat.zero_le _), List.cons_append, List.nil_append, Nat.reduceAdd, Option.toList, z0]
    exact hQ
end M16
