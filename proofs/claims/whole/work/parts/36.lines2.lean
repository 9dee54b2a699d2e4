theorem nmO_le {T : Nat → Int32} {e q st q' : Nat} {lo hi v : Int32} (h : nmO T e q lo hi st q' v 0) : q' ≤ e := by
  obtain ⟨-, h | h⟩ := h
  · omega
  · exact h.2.2.1.2.1
theorem nmO_in {T : Nat → Int32} {e q st q' : Nat} {lo hi v : Int32} (h : nmO T e q lo hi st q' v 0) : lo ≤ v ∧ v ≤ hi := by
  obtain ⟨-, h | h⟩ := h
  · omega
  · rcases h.2.2.2.2 with h | h
    · omega
    · exact h.2
section R3
variable {X : HM} {EV : Nat → Value} {d : Nat} {hm0 hm hm2 : HM} {hs : Nat} {Q : QT} {B n : Nat} {rd tp p s g e q : Nat} {u u' tu pu su gu : Nat → Int32} {tA pA sA gA A' : Nat → Nat → Int32}
theorem c_readPlace {st0 np : Nat} (hX : RX hm0 hm rd tp p s g u tu tA pu pA su sA gu gA) (e4 : u 4 = nI e) (he : e ≤ 900) (e8 : u 8 = nI q) (hq : q ≤ e) (e10 : u 10 = nI st0) (enp : su 1 = nI np) (hnp : np ≤ 8)
    (h0 : ¬ np < 8 → FK hm0 rd tp p s g tu tA gu gA Q hs 4 st0)
    (h1 : np < 8 → ∀ st1 q1 v1 f1, nmO (tA 1) e q 0 (pu 0 - 3) st1 q1 v1 f1 → (f1 ≠ 0 → FK hm0 rd tp p s g tu tA gu gA Q hs f1 st1) ∧ (f1 = 0 → ∀ st2 q2 v2 f2, nmO (tA 1) e q1 0 (pu 1 - 3) st2 q2 v2 f2 → (f2 ≠ 0 → FK hm0 rd tp p s g tu tA gu gA Q hs f2 st2) ∧
      (f2 = 0 → ∀ hm' u', RX hm0 hm' rd tp p s g u' tu tA pu pA (upd su 1 (nI np + 1)) (va_up (va_up (va_up sA 7 (upd (sA 7) np v1)) 8 (upd (sA 8) np v2)) 9 (upd (sA 9) np (-1))) gu gA → (∀ s, s < 8 → u' s = u s) → u' 8 = nI q2 → Q (some (.int 1)) hm' hs))) : CC X EV (d + 5) 52 [.ref rd] hm hs Q := by
  have hR := hX.r
  have hp := hX.pg
  have hsc := hX.sc
  refine c_of (ls2 := [.ref rd, .null]) Y52 (Nat.le_of_ble_eq_true rfl) rfl I52 ?_
  simp only [r_al0 dX2_readPlace_0, r_getf dX2_readPlace_1 F2_47, r_getf dX2_readPlace_4 F2_203, r_bipush dX2_readPlace_7 kb8, r_ic_lt (tgt := 22) dX2_readPlace_9 rfl, r_al0 dX2_readPlace_12, r_iconst dX2_readPlace_13 ki4, r_al0 dX2_readPlace_14, r_getf dX2_readPlace_15 F2_27, r_al0 dX2_readPlace_22, r_iconst dX2_readPlace_23 ki0, r_al0 dX2_readPlace_24, r_getf dX2_readPlace_25 F2_43, r_getf dX2_readPlace_28 F2_152, r_iconst dX2_readPlace_31 ki3, r_isub dX2_readPlace_32, List.cons_append, List.nil_append, Nat.reduceAdd, Option.toList, g1_0, g2_10, g2_5, g2_6, g5_1, z0, hR, rd_own hR, e10, ra_6, ra_5, hsc.r, rd_own hsc.r, hsc.r, rd_own hsc.r, hp.r, rd_own hp.r, hp.r, rd_own hp.r, enp, show (8 : Int32) = nI 8 from rfl]
  simp (disch := omega) only [E2, nI_1, nI_add, nI_leI, nI_ltI, nI_eq, nI_clamp]
  refine ⟨fun k => ?_, fun k => ?_⟩
  · have h1 := h1 k
    refine r_iv3 dX2_readPlace_33 M2_149 Y46 O46 (Nat.le_of_ble_eq_true rfl) (rcv_own hR) (Nat.le_refl _) (Nat.le_refl _) ?_
    refine c_num hX e4 he e8 hq (fun st1 q1 v1 f1 hm1 u1 k1 k2 hX1 k3 k4 => ?_) (fun st1 q1 v1 hm1 u1 k2 hX1 k3 k4 k5 k6 => ?_)
    · skip
      simp only [r_if_ne (tgt := 41) dX2_readPlace_36 rfl, r_iconst dX2_readPlace_39 ki0, r_zret0 dX2_readPlace_40 (Nat.zero_le _) (Nat.zero_le _), r_zret1 dX2_readPlace_40 (Nat.zero_le _) (Nat.zero_le _), r_zretc dX2_readPlace_40 (Nat.zero_le _) (Nat.zero_le _), r_al0 dX2_readPlace_41, r_getf dX2_readPlace_42 F2_33, r_is1 dX2_readPlace_45, r_al0 dX2_readPlace_46, r_iconst dX2_readPlace_47 ki0, r_al0 dX2_readPlace_48, r_getf dX2_readPlace_49 F2_43, r_getf dX2_readPlace_52 F2_155, r_iconst dX2_readPlace_55 ki3, r_isub dX2_readPlace_56, List.cons_append, List.nil_append, Nat.reduceAdd, Option.toList, cat_f, cat_i, cat_n, cat_r, eq_self, g1_1, g2_12, g2_5, true_and, z0]
      exact ⟨fun h => absurd trivial h, fun _ => (h1 st1 q1 v1 f1 k2).1 k1 _ _ _ _ _ _ hX1 k3 k4⟩
    · have h1 := (h1 st1 q1 v1 0 k2).2 rfl
      have hR1 := hX1.r
      have hp1 := hX1.pg
      simp only [r_if_ne (tgt := 41) dX2_readPlace_36 rfl, r_iconst dX2_readPlace_39 ki0, r_zret0 dX2_readPlace_40 (Nat.zero_le _) (Nat.zero_le _), r_zret1 dX2_readPlace_40 (Nat.zero_le _) (Nat.zero_le _), r_zretc dX2_readPlace_40 (Nat.zero_le _) (Nat.zero_le _), r_al0 dX2_readPlace_41, r_getf dX2_readPlace_42 F2_33, r_is1 dX2_readPlace_45, r_al0 dX2_readPlace_46, r_iconst dX2_readPlace_47 ki0, r_al0 dX2_readPlace_48, r_getf dX2_readPlace_49 F2_43, r_getf dX2_readPlace_52 F2_155, r_iconst dX2_readPlace_55 ki3, r_isub dX2_readPlace_56, List.cons_append, List.nil_append, Nat.reduceAdd, Option.toList, cat_f, cat_i, cat_n, cat_r, eq_self, g1_1, g2_12, g2_5, true_and, z0, hR1, rd_own hR1, ra_5, hp1.r, rd_own hp1.r, hp1.r, rd_own hp1.r, k6]
      refine ⟨fun _ => ?_, fun h => absurd (Classical.not_not.mp h) (by decide)⟩
      refine r_iv3 dX2_readPlace_57 M2_149 Y46 O46 (Nat.le_of_ble_eq_true rfl) (rcv_own hR1) (Nat.le_refl _) (Nat.le_refl _) ?_
      refine c_num hX1 (by rw [k3 4 (by omega)]; exact e4) he k4 (nmO_le k2) (fun st2 q2 v2 f2 hm2 u2 g1 g2 hX3 g3 g4 => ?_) (fun st2 q2 v2 hm2 u2 g2 hX3 g3 g4 g5 g6 => ?_)
      · skip
        simp only [r_if_ne (tgt := 65) dX2_readPlace_60 rfl, r_iconst dX2_readPlace_63 ki0, r_zret0 dX2_readPlace_64 (Nat.zero_le _) (Nat.zero_le _), r_zret1 dX2_readPlace_64 (Nat.zero_le _) (Nat.zero_le _), r_zretc dX2_readPlace_64 (Nat.zero_le _) (Nat.zero_le _), r_al0 dX2_readPlace_65, r_getf dX2_readPlace_66 F2_47, r_il1 dX2_readPlace_69, r_al0 dX2_readPlace_70, r_getf dX2_readPlace_71 F2_33, List.cons_append, List.nil_append, Nat.reduceAdd, Option.toList, g2_12, g2_6, z0]
        exact ⟨fun h => absurd trivial h, fun _ => (h1 st2 q2 v2 f2 g2).1 g1 _ _ _ _ _ _ hX3 g3 g4⟩
      · have h1 := (h1 st2 q2 v2 0 g2).2 rfl
        have hR3 := hX3.r
        simp only [r_if_ne (tgt := 65) dX2_readPlace_60 rfl, r_iconst dX2_readPlace_63 ki0, r_zret0 dX2_readPlace_64 (Nat.zero_le _) (Nat.zero_le _), r_zret1 dX2_readPlace_64 (Nat.zero_le _) (Nat.zero_le _), r_zretc dX2_readPlace_64 (Nat.zero_le _) (Nat.zero_le _), r_al0 dX2_readPlace_65, r_getf dX2_readPlace_66 F2_47, r_il1 dX2_readPlace_69, r_al0 dX2_readPlace_70, r_getf dX2_readPlace_71 F2_33, List.cons_append, List.nil_append, Nat.reduceAdd, Option.toList, g2_12, g2_6, z0, hR3, rd_own hR3, ra_6, g6]
        refine ⟨fun _ => ?_, fun h => absurd (Classical.not_not.mp h) (by decide)⟩
        refine r_iv3 dX2_readPlace_74 M2_206 Y70 O70 (Nat.le_of_ble_eq_true rfl) (rcv_own hX3.sc.r) (Nat.le_refl _) (Nat.le_refl _) ?_
        refine c_addPlace hX3.sc enp k (fun hm4 hP4 s4 => ?_)
        simp only [r_iconst dX2_readPlace_77 ki1, r_zret0 dX2_readPlace_78 (Nat.zero_le _) (Nat.zero_le _), r_zret1 dX2_readPlace_78 (Nat.zero_le _) (Nat.zero_le _), r_zretc dX2_readPlace_78 (Nat.zero_le _) (Nat.zero_le _), List.cons_append, List.nil_append, Nat.reduceAdd, Option.toList, z0]
        exact h1 _ u2 (hX3.s_sc hP4 s4) (fun s hs => (g3 s hs).trans (k3 s hs)) g4
  · skip
    refine r_iv3 dX2_readPlace_18 M2_145 Y43 O43 (Nat.le_of_ble_eq_true rfl) (rcv_own hR) (Nat.le_refl _) (Nat.le_refl _) ?_
    refine c_no (lab := 0) hX rfl ?_
    intro hm' u' pu' pA' su' sA' hX' k1 k2
    simp only [r_zret0 dX2_readPlace_21 (Nat.zero_le _) (Nat.zero_le _), r_zret1 dX2_readPlace_21 (Nat.zero_le _) (Nat.zero_le _), r_zretc dX2_readPlace_21 (Nat.zero_le _) (Nat.zero_le _), List.cons_append, List.nil_append, Nat.reduceAdd, Option.toList, z0]
    exact h0 k hm' u' pu' pA' su' sA' hX' k1 k2
theorem c_readHand {st0 : Nat} (hX : RX hm0 hm rd tp p s g u tu tA pu pA su sA gu gA) (e4 : u 4 = nI e) (he : e ≤ 900) (e8 : u 8 = nI q) (hq : q ≤ e) (e10 : u 10 = nI st0) (en : pu 2 = nI n) (hn : n ≤ 12)
    (h1 : ∀ st1 q1 v1 f1, nmO (tA 1) e q 0 (nI n - 1) st1 q1 v1 f1 → (f1 ≠ 0 → FK hm0 rd tp p s g tu tA gu gA Q hs f1 st1) ∧ (f1 = 0 → ∀ i, i < n → v1 = nI i → ∀ st2 q2 v2 f2, nmO (tA 1) e q1 0 1 st2 q2 v2 f2 → (f2 ≠ 0 → FK hm0 rd tp p s g tu tA gu gA Q hs f2 st2) ∧
      (f2 = 0 → (((v2 = 0 ∧ ¬ pu 5 &&& pA 12 i = 0) ∨ (v2 = 1 ∧ ¬ pu 4 &&& pA 13 i = 0)) → FK hm0 rd tp p s g tu tA gu gA Q hs 6 st0) ∧ (¬ ((v2 = 0 ∧ ¬ pu 5 &&& pA 12 i = 0) ∨ (v2 = 1 ∧ ¬ pu 4 &&& pA 13 i = 0)) → ∀ hm' u' pu', RX hm0 hm' rd tp p s g u' tu tA pu' pA su sA gu gA →
        (pu' 4 = if v2 = 0 then (pu 4 &&& (sb i ^^^ (-1))) ||| sb i else pu 4 &&& (sb i ^^^ (-1))) → (pu' 5 = if v2 = 1 then (pu 5 &&& (sb i ^^^ (-1))) ||| sb i else pu 5 &&& (sb i ^^^ (-1))) → (∀ s, s ≠ 4 → s ≠ 5 → pu' s = pu s) → (∀ s, s < 8 → u' s = u s) → u' 8 = nI q2 → Q (some (.int 1)) hm' hs)))) : CC X EV (d + 5) 49 [.ref rd] hm hs Q := by
  have hR := hX.r
  have hp := hX.pg
  refine c_of (ls2 := [.ref rd, .null, .null]) Y49 (Nat.le_of_ble_eq_true rfl) rfl I49 ?_
  simp only [r_al0 dX2_readHand_0, r_getf dX2_readHand_1 F2_27, r_is1 dX2_readHand_4, r_al0 dX2_readHand_5, r_iconst dX2_readHand_6 ki0, r_al0 dX2_readHand_7, r_getf dX2_readHand_8 F2_43, r_getf dX2_readHand_11 F2_158, r_iconst dX2_readHand_14 ki1, r_isub dX2_readHand_15, List.cons_append, List.nil_append, Nat.reduceAdd, Option.toList, cat_f, cat_i, cat_n, cat_r, eq_self, g1_2, g2_10, g2_5, true_and, z0, hR, rd_own hR, e10, ra_5, hp.r, rd_own hp.r, hp.r, rd_own hp.r, en]
  refine r_iv3 dX2_readHand_16 M2_149 Y46 O46 (Nat.le_of_ble_eq_true rfl) (rcv_own hR) (Nat.le_refl _) (Nat.le_refl _) ?_
  refine c_num hX e4 he e8 hq (fun st1 q1 v1 f1 hm1 u1 k1 k2 hX1 k3 k4 => ?_) (fun st1 q1 v1 hm1 u1 k2 hX1 k3 k4 k5 k6 => ?_)
  · skip
    simp only [r_if_ne (tgt := 24) dX2_readHand_19 rfl, r_iconst dX2_readHand_22 ki0, r_zret0 dX2_readHand_23 (Nat.zero_le _) (Nat.zero_le _), r_zret1 dX2_readHand_23 (Nat.zero_le _) (Nat.zero_le _), r_zretc dX2_readHand_23 (Nat.zero_le _) (Nat.zero_le _), r_al0 dX2_readHand_24, r_getf dX2_readHand_25 F2_33, r_is2 dX2_readHand_28, r_al0 dX2_readHand_29, r_iconst dX2_readHand_30 ki0, r_iconst dX2_readHand_31 ki1, List.cons_append, List.nil_append, Nat.reduceAdd, Option.toList, cat_f, cat_i, cat_n, cat_r, eq_self, g2_12, true_and, z0]
    exact ⟨fun h => absurd trivial h, fun _ => (h1 st1 q1 v1 f1 k2).1 k1 _ _ _ _ _ _ hX1 k3 k4⟩
  · have hv := nmO_in k2
    have hn0 : 1 ≤ n := by
      rcases Nat.eq_zero_or_pos n with h | h
      · rw [h] at hv; exact absurd hv (by intro z; have := Int32.le_trans z.1 z.2; exact absurd this (by decide))
      · exact h
    rw [show nI n - 1 = nI (n - 1) by rw [show (1 : Int32) = nI 1 from rfl, nI_sub hn0]] at hv
    obtain ⟨i, hi, ei⟩ := ixle (by omega) hv.1 hv.2
    have h1 := (h1 st1 q1 v1 0 k2).2 rfl i (by omega) ei
    have hR1 := hX1.r
    simp only [r_if_ne (tgt := 24) dX2_readHand_19 rfl, r_iconst dX2_readHand_22 ki0, r_zret0 dX2_readHand_23 (Nat.zero_le _) (Nat.zero_le _), r_zret1 dX2_readHand_23 (Nat.zero_le _) (Nat.zero_le _), r_zretc dX2_readHand_23 (Nat.zero_le _) (Nat.zero_le _), r_al0 dX2_readHand_24, r_getf dX2_readHand_25 F2_33, r_is2 dX2_readHand_28, r_al0 dX2_readHand_29, r_iconst dX2_readHand_30 ki0, r_iconst dX2_readHand_31 ki1, List.cons_append, List.nil_append, Nat.reduceAdd, Option.toList, cat_f, cat_i, cat_n, cat_r, eq_self, g2_12, true_and, z0, hR1, rd_own hR1, k6]
    refine ⟨fun _ => ?_, fun h => absurd (Classical.not_not.mp h) (by decide)⟩
    refine r_iv3 dX2_readHand_32 M2_149 Y46 O46 (Nat.le_of_ble_eq_true rfl) (rcv_own hR1) (Nat.le_refl _) (Nat.le_refl _) ?_
    refine c_num hX1 (by rw [k3 4 (by omega)]; exact e4) he k4 (nmO_le k2) (fun st2 q2 v2 f2 hm2 u2 g1 g2 hX3 g3 g4 => ?_) (fun st2 q2 v2 hm2 u2 g2 hX3 g3 g4 g5 g6 => ?_)
    · skip
      simp only [r_if_ne (tgt := 40) dX2_readHand_35 rfl, r_iconst dX2_readHand_38 ki0, r_zret0 dX2_readHand_39 (Nat.zero_le _) (Nat.zero_le _), r_zret1 dX2_readHand_39 (Nat.zero_le _) (Nat.zero_le _), r_zretc dX2_readHand_39 (Nat.zero_le _) (Nat.zero_le _), r_al0 dX2_readHand_40, r_getf dX2_readHand_41 F2_43, r_il2 dX2_readHand_44, r_al0 dX2_readHand_45, r_getf dX2_readHand_46 F2_33, List.cons_append, List.nil_append, Nat.reduceAdd, Option.toList, g2_12, g2_5, z0]
      exact ⟨fun h => absurd trivial h, fun _ => (h1 st2 q2 v2 f2 g2).1 g1 _ _ _ _ _ _ hX3 g3 g4⟩
    · have h1 := (h1 st2 q2 v2 0 g2).2 rfl
      have hR3 := hX3.r
      simp only [r_if_ne (tgt := 40) dX2_readHand_35 rfl, r_iconst dX2_readHand_38 ki0, r_zret0 dX2_readHand_39 (Nat.zero_le _) (Nat.zero_le _), r_zret1 dX2_readHand_39 (Nat.zero_le _) (Nat.zero_le _), r_zretc dX2_readHand_39 (Nat.zero_le _) (Nat.zero_le _), r_al0 dX2_readHand_40, r_getf dX2_readHand_41 F2_43, r_il2 dX2_readHand_44, r_al0 dX2_readHand_45, r_getf dX2_readHand_46 F2_33, List.cons_append, List.nil_append, Nat.reduceAdd, Option.toList, g2_12, g2_5, z0, hR3, rd_own hR3, ra_5, g6]
      refine ⟨fun _ => ?_, fun h => absurd (Classical.not_not.mp h) (by decide)⟩
      rw [ei]
      refine r_iv3 dX2_readHand_49 M2_172 Y25 O25 (Nat.le_of_ble_eq_true rfl) (rcv_own hX3.pg.r) (Nat.le_refl _) (Nat.le_refl _) ?_
      refine c_handLeavesNoWay hX3.pg (by omega) ?_
      simp only [r_if_eq (tgt := 63) dX2_readHand_52 rfl, r_al0 dX2_readHand_55, r_bipush dX2_readHand_56 kb6, r_il1 dX2_readHand_58, r_al0 dX2_readHand_63, r_getf dX2_readHand_64 F2_43, r_il2 dX2_readHand_67, r_al0 dX2_readHand_68, r_getf dX2_readHand_69 F2_33, List.cons_append, List.nil_append, Nat.reduceAdd, Option.toList, g2_12, g2_5, z0, hR3, rd_own hR3, ra_5, g6]
      refine ⟨fun m => ?_, fun m => ?_⟩
      · skip
        refine r_iv3 dX2_readHand_72 M2_175 Y24 O24 (Nat.le_of_ble_eq_true rfl) (rcv_own hX3.pg.r) (Nat.le_refl _) (Nat.le_refl _) ?_
        refine c_setHand hX3.pg (by omega) (fun hm4 pu4 hP4 m1 m2 m3 s4 => ?_)
        simp only [r_iconst dX2_readHand_75 ki1, r_zret0 dX2_readHand_76 (Nat.zero_le _) (Nat.zero_le _), r_zret1 dX2_readHand_76 (Nat.zero_le _) (Nat.zero_le _), r_zretc dX2_readHand_76 (Nat.zero_le _) (Nat.zero_le _), List.cons_append, List.nil_append, Nat.reduceAdd, Option.toList, z0]
        exact h1.2 m _ u2 pu4 (hX3.s_pg hP4 s4) m1 m2 m3 (fun s hs => (g3 s hs).trans (k3 s hs)) g4
      · skip
        refine r_iv3 dX2_readHand_59 M2_145 Y43 O43 (Nat.le_of_ble_eq_true rfl) (rcv_own hR3) (Nat.le_refl _) (Nat.le_refl _) ?_
        refine c_no (lab := 0) hX3 rfl ?_
        intro hm' u' pu' pA' su' sA' hX' m1 m2
        simp only [r_zret0 dX2_readHand_62 (Nat.zero_le _) (Nat.zero_le _), r_zret1 dX2_readHand_62 (Nat.zero_le _) (Nat.zero_le _), r_zretc dX2_readHand_62 (Nat.zero_le _) (Nat.zero_le _), List.cons_append, List.nil_append, Nat.reduceAdd, Option.toList, z0]
        exact h1.1 (Classical.not_not.mp m) hm' u' pu' pA' su' sA' hX' m1 m2
theorem c_readOver {st0 : Nat} (hX : RX hm0 hm rd tp p s g u tu tA pu pA su sA gu gA) (e4 : u 4 = nI e) (he : e ≤ 900) (e8 : u 8 = nI q) (hq : q ≤ e) (e10 : u 10 = nI st0) (en : pu 2 = nI n) (hn : n ≤ 12)
    (h1 : ∀ st1 q1 v1 f1, nmO (tA 1) e q 0 (nI n - 1) st1 q1 v1 f1 → (f1 ≠ 0 → FK hm0 rd tp p s g tu tA gu gA Q hs f1 st1) ∧ (f1 = 0 → ∀ i, i < n → v1 = nI i → ∀ st2 q2 v2 f2, nmO (tA 1) e q1 0 (nI n - 1) st2 q2 v2 f2 → (f2 ≠ 0 → FK hm0 rd tp p s g tu tA gu gA Q hs f2 st2) ∧
      (f2 = 0 → ∀ j, j < n → v2 = nI j → (refV pu pA n (nI i) (nI j) = -5 → FK hm0 rd tp p s g tu tA gu gA Q hs 3 st2) ∧ (refV pu pA n (nI i) (nI j) = -9 → FK hm0 rd tp p s g tu tA gu gA Q hs 6 st0) ∧
        (refV pu pA n (nI i) (nI j) = -105 → ∀ hm' u' gA' far m (c : Nat → Nat), RX hm0 hm' rd tp p s g u' tu tA pu pA su sA (upd gu 0 (nI (m + 2))) gA' → u' 0 = nI 5 → u' 1 = nI st0 → far ≤ 11 → (∀ x, x < far → bt (stp (pA 11) n i x).2 j = false) → (far = 11 ∨ bt (stp (pA 11) n i far).2 j = true) →
          gA' 1 0 = nI i → (∀ x, x ≤ m → c x < 12 ∧ gA' 1 (x + 1) = nI (c x)) → c 0 = j → m ≤ far - 1 → (∀ x, x < m → pA 11 (c x) &&& (stp (pA 11) n i (far - 1 - x)).1 ≠ 0 ∧ c (x + 1) = fstN (fun k => bt (pA 11 (c x) &&& (stp (pA 11) n i (far - 1 - x)).1) k = true) 12) →
          (m < far - 1 → pA 11 (c m) &&& (stp (pA 11) n i (far - 1 - m)).1 = 0) → Q (some (.int 0)) hm' hs) ∧
        (refV pu pA n (nI i) (nI j) = 0 → ∀ hm' u', RX hm0 hm' rd tp p s g u' tu tA (upd pu 3 (pu 3 + 1)) (lnkA n i j pA) su sA gu gA → (∀ s, s < 8 → u' s = u s) → u' 8 = nI q2 → Q (some (.int 1)) hm' hs)))) : CC X EV (d + 5) 50 [.ref rd] hm hs Q := by
  have had := hX.ad
  unfold adX at had
  have hR := hX.r
  have hp := hX.pg
  have idx : ∀ (v : Int32), 0 ≤ v ∧ v ≤ nI n - 1 → ∃ i, i < n ∧ v = nI i := by
    intro v hv
    have hn0 : 1 ≤ n := by
      rcases Nat.eq_zero_or_pos n with h | h
      · rw [h] at hv; exact absurd hv (by intro z; have := Int32.le_trans z.1 z.2; exact absurd this (by decide))
      · exact h
    rw [show nI n - 1 = nI (n - 1) by rw [show (1 : Int32) = nI 1 from rfl, nI_sub hn0]] at hv
    obtain ⟨i, hi, ei⟩ := ixle (by omega) hv.1 hv.2
    exact ⟨i, by omega, ei⟩
  refine c_of (ls2 := [.ref rd, .null, .null, .null]) Y50 (Nat.le_of_ble_eq_true rfl) rfl I50 ?_
  simp only [r_al0 dX2_readOver_0, r_getf dX2_readOver_1 F2_27, r_is1 dX2_readOver_4, r_al0 dX2_readOver_5, r_iconst dX2_readOver_6 ki0, r_al0 dX2_readOver_7, r_getf dX2_readOver_8 F2_43, r_getf dX2_readOver_11 F2_158, r_iconst dX2_readOver_14 ki1, r_isub dX2_readOver_15, List.cons_append, List.nil_append, Nat.reduceAdd, Option.toList, cat_f, cat_i, cat_n, cat_r, eq_self, g1_2, g2_10, g2_5, true_and, z0, hR, rd_own hR, e10, ra_5, hp.r, rd_own hp.r, hp.r, rd_own hp.r, en]
  refine r_iv3 dX2_readOver_16 M2_149 Y46 O46 (Nat.le_of_ble_eq_true rfl) (rcv_own hR) (Nat.le_refl _) (Nat.le_refl _) ?_
  refine c_num hX e4 he e8 hq (fun st1 q1 v1 f1 hm1 u1 k1 k2 hX1 k3 k4 => ?_) (fun st1 q1 v1 hm1 u1 k2 hX1 k3 k4 k5 k6 => ?_)
  · skip
    simp only [r_if_ne (tgt := 24) dX2_readOver_19 rfl, r_iconst dX2_readOver_22 ki0, r_zret0 dX2_readOver_23 (Nat.zero_le _) (Nat.zero_le _), r_zret1 dX2_readOver_23 (Nat.zero_le _) (Nat.zero_le _), r_zretc dX2_readOver_23 (Nat.zero_le _) (Nat.zero_le _), r_al0 dX2_readOver_24, r_getf dX2_readOver_25 F2_33, r_is2 dX2_readOver_28, r_al0 dX2_readOver_29, r_iconst dX2_readOver_30 ki0, r_al0 dX2_readOver_31, r_getf dX2_readOver_32 F2_43, r_getf dX2_readOver_35 F2_158, r_iconst dX2_readOver_38 ki1, r_isub dX2_readOver_39, List.cons_append, List.nil_append, Nat.reduceAdd, Option.toList, cat_f, cat_i, cat_n, cat_r, eq_self, g1_2, g2_12, g2_5, true_and, z0]
    exact ⟨fun h => absurd trivial h, fun _ => (h1 st1 q1 v1 f1 k2).1 k1 _ _ _ _ _ _ hX1 k3 k4⟩
  · obtain ⟨i, hi, ei⟩ := idx v1 (nmO_in k2)
    have h1 := (h1 st1 q1 v1 0 k2).2 rfl i hi ei
    have hR1 := hX1.r
    have hp1 := hX1.pg
    simp only [r_if_ne (tgt := 24) dX2_readOver_19 rfl, r_iconst dX2_readOver_22 ki0, r_zret0 dX2_readOver_23 (Nat.zero_le _) (Nat.zero_le _), r_zret1 dX2_readOver_23 (Nat.zero_le _) (Nat.zero_le _), r_zretc dX2_readOver_23 (Nat.zero_le _) (Nat.zero_le _), r_al0 dX2_readOver_24, r_getf dX2_readOver_25 F2_33, r_is2 dX2_readOver_28, r_al0 dX2_readOver_29, r_iconst dX2_readOver_30 ki0, r_al0 dX2_readOver_31, r_getf dX2_readOver_32 F2_43, r_getf dX2_readOver_35 F2_158, r_iconst dX2_readOver_38 ki1, r_isub dX2_readOver_39, List.cons_append, List.nil_append, Nat.reduceAdd, Option.toList, cat_f, cat_i, cat_n, cat_r, eq_self, g1_2, g2_12, g2_5, true_and, z0, hR1, rd_own hR1, k6, ra_5, hp1.r, rd_own hp1.r, hp1.r, rd_own hp1.r, en]
    refine ⟨fun _ => ?_, fun h => absurd (Classical.not_not.mp h) (by decide)⟩
    refine r_iv3 dX2_readOver_40 M2_149 Y46 O46 (Nat.le_of_ble_eq_true rfl) (rcv_own hR1) (Nat.le_refl _) (Nat.le_refl _) ?_
    refine c_num hX1 (by rw [k3 4 (by omega)]; exact e4) he k4 (nmO_le k2) (fun st2 q2 v2 f2 hm2 u2 g1 g2 hX3 g3 g4 => ?_) (fun st2 q2 v2 hm2 u2 g2 hX3 g3 g4 g5 g6 => ?_)
    · skip
      simp only [r_if_ne (tgt := 48) dX2_readOver_43 rfl, r_iconst dX2_readOver_46 ki0, r_zret0 dX2_readOver_47 (Nat.zero_le _) (Nat.zero_le _), r_zret1 dX2_readOver_47 (Nat.zero_le _) (Nat.zero_le _), r_zretc dX2_readOver_47 (Nat.zero_le _) (Nat.zero_le _), r_al0 dX2_readOver_48, r_getf dX2_readOver_49 F2_43, r_il2 dX2_readOver_52, r_al0 dX2_readOver_53, r_getf dX2_readOver_54 F2_33, List.cons_append, List.nil_append, Nat.reduceAdd, Option.toList, g2_12, g2_5, z0]
      exact ⟨fun h => absurd trivial h, fun _ => (h1 st2 q2 v2 f2 g2).1 g1 _ _ _ _ _ _ hX3 g3 g4⟩
    · obtain ⟨j, hj, ej⟩ := idx v2 (nmO_in g2)
      obtain ⟨m1, m2, m3, m4⟩ := (h1 st2 q2 v2 0 g2).2 rfl j hj ej
      have hR3 := hX3.r
      simp only [r_if_ne (tgt := 48) dX2_readOver_43 rfl, r_iconst dX2_readOver_46 ki0, r_zret0 dX2_readOver_47 (Nat.zero_le _) (Nat.zero_le _), r_zret1 dX2_readOver_47 (Nat.zero_le _) (Nat.zero_le _), r_zretc dX2_readOver_47 (Nat.zero_le _) (Nat.zero_le _), r_al0 dX2_readOver_48, r_getf dX2_readOver_49 F2_43, r_il2 dX2_readOver_52, r_al0 dX2_readOver_53, r_getf dX2_readOver_54 F2_33, List.cons_append, List.nil_append, Nat.reduceAdd, Option.toList, g2_12, g2_5, z0, hR3, rd_own hR3, ra_5, g6]
      refine ⟨fun _ => ?_, fun h => absurd (Classical.not_not.mp h) (by decide)⟩
      rw [ei, ej]
      rw [ej] at g6
      refine r_itn3 dX2_readOver_57 M2_179 Y110 (Nat.le_of_ble_eq_true rfl) (Nat.le_refl _) (Nat.le_refl _) ?_
      refine c_refusal hX3.pg en hn ?_
      simp only [r_is3 dX2_readOver_60, r_il3 dX2_readOver_61, r_bipush dX2_readOver_62 kbm5, r_ic_ne (tgt := 77) dX2_readOver_64 rfl, r_al0 dX2_readOver_67, r_iconst dX2_readOver_68 ki3, r_al0 dX2_readOver_69, r_getf dX2_readOver_70 F2_27, r_il3 dX2_readOver_77, r_bipush dX2_readOver_78 kbm105, r_ic_ne (tgt := 106) dX2_readOver_80 rfl, r_al0 dX2_readOver_83, r_getf dX2_readOver_84 F2_51, r_al0 dX2_readOver_87, r_getf dX2_readOver_88 F2_43, r_il2 dX2_readOver_91, r_al0 dX2_readOver_92, r_getf dX2_readOver_93 F2_33, r_il3 dX2_readOver_106, r_if_eq (tgt := 118) dX2_readOver_107 rfl, r_al0 dX2_readOver_110, r_bipush dX2_readOver_111 kb6, r_il1 dX2_readOver_113, r_al0 dX2_readOver_118, r_getf dX2_readOver_119 F2_43, r_il2 dX2_readOver_122, r_al0 dX2_readOver_123, r_getf dX2_readOver_124 F2_33, List.cons_append, List.nil_append, Nat.reduceAdd, Option.toList, cat_f, cat_i, cat_n, cat_r, eq_self, g2_10, g2_12, g2_5, g2_7, true_and, z0, hR3, rd_own hR3, ra_5, ra_7, g6, g5]
      refine ⟨fun w1 => ⟨fun w2 => ⟨fun w3 => ?_, fun w3 => ?_⟩, fun w2 => ?_⟩, fun w1 => ?_⟩
      · skip
        refine r_iv3 dX2_readOver_127 M2_189 Y19 O19 (Nat.le_of_ble_eq_true rfl) (rcv_own hX3.pg.r) (Nat.le_refl _) (Nat.le_refl _) ?_
        refine c_link2 hX3.pg en hn (by omega) (by omega) (fun hm4 hP4 s4 => ?_)
        simp only [r_iconst dX2_readOver_130 ki1, r_zret0 dX2_readOver_131 (Nat.zero_le _) (Nat.zero_le _), r_zret1 dX2_readOver_131 (Nat.zero_le _) (Nat.zero_le _), r_zretc dX2_readOver_131 (Nat.zero_le _) (Nat.zero_le _), List.cons_append, List.nil_append, Nat.reduceAdd, Option.toList, z0]
        exact m4 w3 _ u2 (hX3.s_pg hP4 s4) (fun s hs => (g3 s hs).trans (k3 s hs)) g4
      · have w4 : refV pu pA n (nI i) (nI j) = -9 := by
          unfold refV at w1 w2 w3 ⊢
          rw [if_neg (fun z => z ⟨ix2 (by omega) hi, ix2 (by omega) hj⟩)] at w1 w2 w3 ⊢
          grind
        refine r_iv3 dX2_readOver_114 M2_145 Y43 O43 (Nat.le_of_ble_eq_true rfl) (rcv_own hR3) (Nat.le_refl _) (Nat.le_refl _) ?_
        refine c_no (lab := 0) hX3 rfl ?_
        intro hm' u' pu' pA' su' sA' hX' y1 y2
        simp only [r_zret0 dX2_readOver_117 (Nat.zero_le _) (Nat.zero_le _), r_zret1 dX2_readOver_117 (Nat.zero_le _) (Nat.zero_le _), r_zretc dX2_readOver_117 (Nat.zero_le _) (Nat.zero_le _), List.cons_append, List.nil_append, Nat.reduceAdd, Option.toList, z0]
        exact m2 w4 hm' u' pu' pA' su' sA' hX' y1 y2
      · skip
        refine r_iv4 dX2_readOver_96 M2_183 Y56 O56 (Nat.le_of_ble_eq_true rfl) (rcv_own hX3.rg.r) (Nat.le_refl _) (Nat.le_refl _) ?_
        refine c_show hX3.rg hX3.pg (by omega) en hn (by omega) (by omega) (fun hm4 A4 far m c y1 y2 y3 y4 y5 y6 y7 y8 y9 y10 y11 => ?_)
        have hX4 := hX3.s_rg y1 y11
        simp only [r_al0 dX2_readOver_99, r_iconst dX2_readOver_100 ki5, r_il1 dX2_readOver_101, List.cons_append, List.nil_append, Nat.reduceAdd, Option.toList, z0]
        refine r_iv3 dX2_readOver_102 M2_145 Y43 O43 (Nat.le_of_ble_eq_true rfl) (rcv_own hX4.r) (Nat.le_refl _) (Nat.le_refl _) ?_
        refine c_refuse hX4.r ?_
        simp only [r_zret0 dX2_readOver_105 (Nat.zero_le _) (Nat.zero_le _), r_zret1 dX2_readOver_105 (Nat.zero_le _) (Nat.zero_le _), r_zretc dX2_readOver_105 (Nat.zero_le _) (Nat.zero_le _), List.cons_append, List.nil_append, Nat.reduceAdd, Option.toList, z0]
        exact m3 (Classical.not_not.mp w2) _ _ A4 far m c (hX4.o (upd (upd u2 0 5) 1 (nI st0))) (by rw [pk_un (by decide), pk_us]; rfl) pk_us y2 y3 y4 y5 y6 y7 y8 y9 y10
      · skip
        refine r_iv3 dX2_readOver_73 M2_145 Y43 O43 (Nat.le_of_ble_eq_true rfl) (rcv_own hR3) (Nat.le_refl _) (Nat.le_refl _) ?_
        refine c_no (lab := 0) hX3 rfl ?_
        intro hm' u' pu' pA' su' sA' hX' y1 y2
        simp only [r_zret0 dX2_readOver_76 (Nat.zero_le _) (Nat.zero_le _), r_zret1 dX2_readOver_76 (Nat.zero_le _) (Nat.zero_le _), r_zretc dX2_readOver_76 (Nat.zero_le _) (Nat.zero_le _), List.cons_append, List.nil_append, Nat.reduceAdd, Option.toList, z0]
        exact m1 (Classical.not_not.mp w1) hm' u' pu' pA' su' sA' hX' y1 y2
end R3
