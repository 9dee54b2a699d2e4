/-- a word is read at q: its start and its size, 0 for none -/
def wdO (T : Nat → Int32) (e q st z : Nat) : Prop := nxq T e (fun x => x = 32) q st ∧ ((z = 0 ∧ ¬ (st < e ∧ isSm (T st))) ∨ (0 < z ∧ st < e ∧ isSm (T st) ∧ nxq T e isSm st (st + z)))
section R4
variable {X : HM} {EV : Nat → Value} {d : Nat} {hm0 hm hm2 : HM} {hs : Nat} {Q : QT} {B n : Nat} {rd tp p s g e q : Nat} {u u' tu pu su gu : Nat → Int32} {tA pA sA gA A' : Nat → Nat → Int32}
theorem c_piece (hX : RX hm0 hm rd tp p s g u tu tA pu pA su sA gu gA) (e4 : u 4 = nI e) (he : e ≤ 900) (e8 : u 8 = nI q) (hq : q ≤ e)
    (hQ : ∀ st z hm' u1, wdO (tA 1) e q st z → RX hm0 hm' rd tp p s g u1 tu tA pu pA su sA gu gA → (∀ s, s < 8 → u1 s = u s) → u1 10 = nI st → st ≤ e → (u1 9 = 0 ↔ st = e) → (u1 9 = 2 ↔ 0 < z) → (0 < z → u1 11 = nI z ∧ u1 8 = nI (st + z) ∧ st + z ≤ e) → (∃ q', u1 8 = nI q' ∧ u1 11 = nI (q' - st) ∧ q' ≤ e) → Q none hm' hs) : CC X EV (d + 3) 37 [.ref rd] hm hs Q := by
  have ha := hX.ad
  unfold adX at ha
  refine c_readPiece hX.r ra_3 hX.tt (by omega) e4 he e8 hq (fun st q' u1 hr => ?_)
  have hX1 := hX.o u1
  obtain ⟨h1, h2, h3, h4, h5, h6, h7, h8⟩ := hr
  rcases h8 with h | h | h | h
  · refine hQ st 0 _ u1 ⟨h5, Or.inl ⟨rfl, fun z => by omega⟩⟩ hX1 h1 h3 h5.2.1 ⟨fun _ => h.1, fun _ => h.2.1⟩ ⟨fun z => ?_, fun z => absurd z (by omega)⟩ (fun z => absurd z (by omega)) ⟨q', h2, h4, h7⟩
    rw [h.2.1] at z; exact absurd z (by decide)
  · refine hQ st 0 _ u1 ⟨h5, Or.inl ⟨rfl, fun z => ?_⟩⟩ hX1 h1 h3 h5.2.1 ⟨fun z => ?_, fun z => by omega⟩ ⟨fun z => ?_, fun z => absurd z (by omega)⟩ (fun z => absurd z (by omega)) ⟨q', h2, h4, h7⟩
    · have h9 := h.2.1
      unfold isDg at h9
      unfold isSm at z
      have := Int32.le_trans z.2.1 h9.2
      exact absurd this (by decide)
    · rw [h.2.2.1] at z; exact absurd z (by decide)
    · rw [h.2.2.1] at z; exact absurd z (by decide)
  · have hlt : st < q' := by
      rcases Nat.lt_or_ge st q' with z | z
      · exact z
      · have e1 : q' = st := by omega
        have := h.2.2.2.2.1.2.2.2
        rw [e1] at this
        exact absurd h.2.2.1 (this h.1)
    have e1 : st + (q' - st) = q' := by omega
    refine hQ st (q' - st) _ u1 ⟨h5, Or.inr ⟨by omega, h.1, h.2.2.1, by rw [e1]; exact h.2.2.2.2.1⟩⟩ hX1 h1 h3 h5.2.1 ⟨fun z => ?_, fun z => by omega⟩ ⟨fun _ => by omega, fun _ => h.2.2.2.1⟩ (fun _ => ⟨h4, by rw [e1]; exact h2, by omega⟩) ⟨q', h2, h4, h7⟩
    rw [h.2.2.2.1] at z; exact absurd z (by decide)
  · refine hQ st 0 _ u1 ⟨h5, Or.inl ⟨rfl, fun z => h.2.2.1 z.2⟩⟩ hX1 h1 h3 h5.2.1 ⟨fun z => ?_, fun z => by omega⟩ ⟨fun z => ?_, fun z => absurd z (by omega)⟩ (fun z => absurd z (by omega)) ⟨q', h2, h4, h7⟩
    · rw [h.2.2.2.1] at z; exact absurd z (by decide)
    · rw [h.2.2.2.1] at z; exact absurd z (by decide)
theorem c_readLetter {st0 nl : Nat} (hX : RX hm0 hm rd tp p s g u tu tA pu pA su sA gu gA) (e4 : u 4 = nI e) (he : e ≤ 900) (e8 : u 8 = nI q) (hq : q ≤ e) (e10 : u 10 = nI st0) (enl : su 0 = nI nl) (hnl : nl ≤ 10)
    (h0 : ¬ nl < 10 → FK hm0 rd tp p s g tu tA gu gA Q hs 4 st0)
    (h1 : nl < 10 → ∀ st z, wdO (tA 1) e q st z → (z ≠ 1 → FK hm0 rd tp p s g tu tA gu gA Q hs 1 st) ∧ (z = 1 → (¬ fst1 (fun k => sA 4 k = tA 1 st) nl = -1 → FK hm0 rd tp p s g tu tA gu gA Q hs 3 st) ∧ (fst1 (fun k => sA 4 k = tA 1 st) nl = -1 →
      ∀ st1 q1 v1 f1, nmO (tA 1) e (st + 1) 1 511 st1 q1 v1 f1 → (f1 ≠ 0 → FK hm0 rd tp p s g tu tA gu gA Q hs f1 st1) ∧ (f1 = 0 → ∀ st2 q2 v2 f2, nmO (tA 1) e q1 1 99 st2 q2 v2 f2 → (f2 ≠ 0 → FK hm0 rd tp p s g tu tA gu gA Q hs f2 st2) ∧
      (f2 = 0 → ∀ hm' u', RX hm0 hm' rd tp p s g u' tu tA pu pA (upd su 0 (nI nl + 1)) (va_up (va_up (va_up sA 4 (upd (sA 4) nl (tA 1 st))) 5 (upd (sA 5) nl v1)) 6 (upd (sA 6) nl v2)) gu gA → (∀ s, s < 8 → u' s = u s) → u' 8 = nI q2 → Q (some (.int 1)) hm' hs))))) : CC X EV (d + 5) 51 [.ref rd] hm hs Q := by
  have hR := hX.r
  have hsc := hX.sc
  refine c_of (ls2 := [.ref rd, .null, .null]) Y51 (Nat.le_of_ble_eq_true rfl) rfl I51 ?_
  simp only [r_al0 dX2_readLetter_0, r_getf dX2_readLetter_1 F2_47, r_getf dX2_readLetter_4 F2_192, r_bipush dX2_readLetter_7 kb10, r_ic_lt (tgt := 22) dX2_readLetter_9 rfl, r_al0 dX2_readLetter_12, r_iconst dX2_readLetter_13 ki4, r_al0 dX2_readLetter_14, r_getf dX2_readLetter_15 F2_27, r_al0 dX2_readLetter_22, List.cons_append, List.nil_append, Nat.reduceAdd, Option.toList, g2_10, g2_6, g5_0, z0, hR, rd_own hR, e10, ra_6, hsc.r, rd_own hsc.r, hsc.r, rd_own hsc.r, enl, show (10 : Int32) = nI 10 from rfl]
  simp (disch := omega) only [E2, nI_1, nI_add, nI_leI, nI_ltI, nI_eq, nI_clamp]
  refine ⟨fun k => ?_, fun k => ?_⟩
  · have h1 := h1 k
    refine r_iv1 dX2_readLetter_23 M2_63 Y37 O37 (Nat.le_of_ble_eq_true rfl) (rcv_own hR) (Nat.le_refl _) (Nat.le_refl _) ?_
    refine c_piece hX e4 he e8 hq (fun st z hm1 u1 k1 hX1 k2 k3 k4 k5 k6 k7 k8 => ?_)
    have h1 := h1 st z k1
    obtain ⟨q8, k81, k82, k83⟩ := k8
    have hR1 := hX1.r
    have hT1 := hX1.tt
    have bad : z ≠ 1 → E1 X EV (d + 4) 2 0 0 (some .boolean) false cX2_readLetter Q 48 [.ref rd, .null, .null] [.int (nI st), .int 1, .ref rd] 0 0 hm1 hs := by
      intro hz
      refine r_iv3 dX2_readLetter_48 M2_145 Y43 O43 (Nat.le_of_ble_eq_true rfl) (rcv_own hR1) (Nat.le_refl _) (Nat.le_refl _) ?_
      refine c_no (lab := 0) hX1 rfl ?_
      intro hm' u' pu' pA' su' sA' hX' y1 y2
      simp only [r_zret0 dX2_readLetter_51 (Nat.zero_le _) (Nat.zero_le _), r_zret1 dX2_readLetter_51 (Nat.zero_le _) (Nat.zero_le _), r_zretc dX2_readLetter_51 (Nat.zero_le _) (Nat.zero_le _), List.cons_append, List.nil_append, Nat.reduceAdd, Option.toList, z0]
      exact h1.1 hz hm' u' pu' pA' su' sA' hX' y1 y2
    have hst : z = 1 → st < e := by
      intro hz
      rcases k1.2 with w | w
      · omega
      · exact w.2.1
    simp only [r_al0 dX2_readLetter_26, r_getf dX2_readLetter_27 F2_24, r_iconst dX2_readLetter_30 ki2, r_ic_ne (tgt := 42) dX2_readLetter_31 rfl, r_al0 dX2_readLetter_34, r_getf dX2_readLetter_35 F2_30, r_iconst dX2_readLetter_38 ki1, r_ic_eqB (tgt := 52) dX2_readLetter_39 rfl, r_al0 dX2_readLetter_42, r_iconst dX2_readLetter_43 ki1, r_al0 dX2_readLetter_44, r_getf dX2_readLetter_45 F2_27, List.cons_append, List.nil_append, Nat.reduceAdd, Option.toList, g2_10, g2_11, g2_9, z0, hR1, rd_own hR1, k3]
    refine ⟨fun w => bad (fun hz => w (k6.mpr (by omega))), fun w => ?_⟩
    have hz0 := k6.mp (Classical.not_not.mp w)
    obtain ⟨k71, k72, k73⟩ := k7 hz0
    rw [k71]
    refine ⟨fun w2 => ?_, fun w2 => bad (fun hz => w2 (by rw [hz]; rfl))⟩
    have hz1 : z = 1 := (nI_eq (show z < 2 ^ 31 by omega) (show 1 < 2 ^ 31 by omega)).mp w2
    have hst := hst hz1
    have h1 := h1.2 hz1
    simp (disch := omega) only [E2, nI_1, nI_add, nI_leI, nI_ltI, nI_eq, nI_clamp]
    simp only [r_al0 dX2_readLetter_52, r_getf dX2_readLetter_53 F2_36, r_getf dX2_readLetter_56 F2_73, r_al0 dX2_readLetter_59, r_getf dX2_readLetter_60 F2_27, r_iald dX2_readLetter_63, r_is1 dX2_readLetter_64, r_al0 dX2_readLetter_65, r_getf dX2_readLetter_66 F2_47, r_il1 dX2_readLetter_69, List.cons_append, List.nil_append, Nat.reduceAdd, Option.toList, aI_ok, cat_f, cat_i, cat_n, cat_r, eq_self, g2_10, g2_3, g2_6, g8_1, true_and, z0, hR1, rd_own hR1, k3, ra_3, ra_6, hT1.r, rd_own hT1.r, hT1.r1, rd_own hT1.r1, nI_clamp (show st < 2 ^ 31 by omega)]
    refine ⟨vp_in_nI (by omega) (by omega), ?_⟩
    refine r_iv2 dX2_readLetter_70 M2_195 Y68 O68 (Nat.le_of_ble_eq_true rfl) (rcv_own hX1.sc.r) (Nat.le_refl _) (Nat.le_refl _) ?_
    refine c_letterNamed hX1.sc enl hnl ?_
    simp only [r_iconst dX2_readLetter_73 kim1, r_ic_eq (tgt := 87) dX2_readLetter_74 rfl, r_al0 dX2_readLetter_77, r_iconst dX2_readLetter_78 ki3, r_al0 dX2_readLetter_79, r_getf dX2_readLetter_80 F2_27, r_al0 dX2_readLetter_87, r_iconst dX2_readLetter_88 ki1, r_sipush dX2_readLetter_89 ks511, List.cons_append, List.nil_append, Nat.reduceAdd, Option.toList, g2_10, z0, hR1, rd_own hR1, k3]
    refine ⟨fun w3 => ?_, fun w3 => ?_⟩
    · have h1 := h1.2 w3
      refine r_iv3 dX2_readLetter_92 M2_149 Y46 O46 (Nat.le_of_ble_eq_true rfl) (rcv_own hR1) (Nat.le_refl _) (Nat.le_refl _) ?_
      refine c_num hX1 (by rw [k2 4 (by omega)]; exact e4) he (q := st + 1) (by rw [k72, hz1]) (by omega) (fun st1 q1 v1 f1 hm2 u2 g1 g2 hX3 g3 g4 => ?_) (fun st1 q1 v1 hm2 u2 g2 hX3 g3 g4 g5 g6 => ?_)
      · skip
        simp only [r_if_ne (tgt := 100) dX2_readLetter_95 rfl, r_iconst dX2_readLetter_98 ki0, r_zret0 dX2_readLetter_99 (Nat.zero_le _) (Nat.zero_le _), r_zret1 dX2_readLetter_99 (Nat.zero_le _) (Nat.zero_le _), r_zretc dX2_readLetter_99 (Nat.zero_le _) (Nat.zero_le _), r_al0 dX2_readLetter_100, r_getf dX2_readLetter_101 F2_33, r_is2 dX2_readLetter_104, r_al0 dX2_readLetter_105, r_iconst dX2_readLetter_106 ki1, r_bipush dX2_readLetter_107 kb99, List.cons_append, List.nil_append, Nat.reduceAdd, Option.toList, cat_f, cat_i, cat_n, cat_r, eq_self, g2_12, true_and, z0]
        exact ⟨fun h => absurd trivial h, fun _ => (h1 st1 q1 v1 f1 g2).1 g1 _ _ _ _ _ _ hX3 g3 g4⟩
      · have h1 := (h1 st1 q1 v1 0 g2).2 rfl
        have hR3 := hX3.r
        simp only [r_if_ne (tgt := 100) dX2_readLetter_95 rfl, r_iconst dX2_readLetter_98 ki0, r_zret0 dX2_readLetter_99 (Nat.zero_le _) (Nat.zero_le _), r_zret1 dX2_readLetter_99 (Nat.zero_le _) (Nat.zero_le _), r_zretc dX2_readLetter_99 (Nat.zero_le _) (Nat.zero_le _), r_al0 dX2_readLetter_100, r_getf dX2_readLetter_101 F2_33, r_is2 dX2_readLetter_104, r_al0 dX2_readLetter_105, r_iconst dX2_readLetter_106 ki1, r_bipush dX2_readLetter_107 kb99, List.cons_append, List.nil_append, Nat.reduceAdd, Option.toList, cat_f, cat_i, cat_n, cat_r, eq_self, g2_12, true_and, z0, hR3, rd_own hR3, g6]
        refine ⟨fun _ => ?_, fun h => absurd (Classical.not_not.mp h) (by decide)⟩
        refine r_iv3 dX2_readLetter_109 M2_149 Y46 O46 (Nat.le_of_ble_eq_true rfl) (rcv_own hR3) (Nat.le_refl _) (Nat.le_refl _) ?_
        refine c_num hX3 (by rw [g3 4 (by omega), k2 4 (by omega)]; exact e4) he g4 (nmO_le g2) (fun st2 q2 v2 f2 hm4 u4 y1 y2 hX5 y3 y4 => ?_) (fun st2 q2 v2 hm4 u4 y2 hX5 y3 y4 y5 y6 => ?_)
        · skip
          simp only [r_if_ne (tgt := 117) dX2_readLetter_112 rfl, r_iconst dX2_readLetter_115 ki0, r_zret0 dX2_readLetter_116 (Nat.zero_le _) (Nat.zero_le _), r_zret1 dX2_readLetter_116 (Nat.zero_le _) (Nat.zero_le _), r_zretc dX2_readLetter_116 (Nat.zero_le _) (Nat.zero_le _), r_al0 dX2_readLetter_117, r_getf dX2_readLetter_118 F2_47, r_il1 dX2_readLetter_121, r_il2 dX2_readLetter_122, r_al0 dX2_readLetter_123, r_getf dX2_readLetter_124 F2_33, List.cons_append, List.nil_append, Nat.reduceAdd, Option.toList, g2_12, g2_6, z0]
          exact ⟨fun h => absurd trivial h, fun _ => (h1 st2 q2 v2 f2 y2).1 y1 _ _ _ _ _ _ hX5 y3 y4⟩
        · have h1 := (h1 st2 q2 v2 0 y2).2 rfl
          have hR5 := hX5.r
          simp only [r_if_ne (tgt := 117) dX2_readLetter_112 rfl, r_iconst dX2_readLetter_115 ki0, r_zret0 dX2_readLetter_116 (Nat.zero_le _) (Nat.zero_le _), r_zret1 dX2_readLetter_116 (Nat.zero_le _) (Nat.zero_le _), r_zretc dX2_readLetter_116 (Nat.zero_le _) (Nat.zero_le _), r_al0 dX2_readLetter_117, r_getf dX2_readLetter_118 F2_47, r_il1 dX2_readLetter_121, r_il2 dX2_readLetter_122, r_al0 dX2_readLetter_123, r_getf dX2_readLetter_124 F2_33, List.cons_append, List.nil_append, Nat.reduceAdd, Option.toList, g2_12, g2_6, z0, hR5, rd_own hR5, ra_6, y6]
          refine ⟨fun _ => ?_, fun h => absurd (Classical.not_not.mp h) (by decide)⟩
          refine r_iv4 dX2_readLetter_127 M2_199 Y69 O69 (Nat.le_of_ble_eq_true rfl) (rcv_own hX5.sc.r) (Nat.le_refl _) (Nat.le_refl _) ?_
          refine c_addLetter hX5.sc enl k (fun hm6 hP6 s6 => ?_)
          simp only [r_iconst dX2_readLetter_130 ki1, r_zret0 dX2_readLetter_131 (Nat.zero_le _) (Nat.zero_le _), r_zret1 dX2_readLetter_131 (Nat.zero_le _) (Nat.zero_le _), r_zretc dX2_readLetter_131 (Nat.zero_le _) (Nat.zero_le _), List.cons_append, List.nil_append, Nat.reduceAdd, Option.toList, z0]
          exact h1 _ u4 (hX5.s_sc hP6 s6) (fun s hs => ((y3 s hs).trans (g3 s hs)).trans (k2 s hs)) y4
    · skip
      refine r_iv3 dX2_readLetter_83 M2_145 Y43 O43 (Nat.le_of_ble_eq_true rfl) (rcv_own hR1) (Nat.le_refl _) (Nat.le_refl _) ?_
      refine c_no (lab := 0) hX1 rfl ?_
      intro hm' u' pu' pA' su' sA' hX' y1 y2
      simp only [r_zret0 dX2_readLetter_86 (Nat.zero_le _) (Nat.zero_le _), r_zret1 dX2_readLetter_86 (Nat.zero_le _) (Nat.zero_le _), r_zretc dX2_readLetter_86 (Nat.zero_le _) (Nat.zero_le _), List.cons_append, List.nil_append, Nat.reduceAdd, Option.toList, z0]
      exact h1.1 w3 hm' u' pu' pA' su' sA' hX' y1 y2
  · skip
    refine r_iv3 dX2_readLetter_18 M2_145 Y43 O43 (Nat.le_of_ble_eq_true rfl) (rcv_own hR) (Nat.le_refl _) (Nat.le_refl _) ?_
    refine c_no (lab := 0) hX rfl ?_
    intro hm' u' pu' pA' su' sA' hX' k1 k2
    simp only [r_zret0 dX2_readLetter_21 (Nat.zero_le _) (Nat.zero_le _), r_zret1 dX2_readLetter_21 (Nat.zero_le _) (Nat.zero_le _), r_zretc dX2_readLetter_21 (Nat.zero_le _) (Nat.zero_le _), List.cons_append, List.nil_append, Nat.reduceAdd, Option.toList, z0]
    exact h0 k hm' u' pu' pA' su' sA' hX' k1 k2
theorem c_readRun {st0 np nr : Nat} (hX : RX hm0 hm rd tp p s g u tu tA pu pA su sA gu gA) (e4 : u 4 = nI e) (he : e ≤ 900) (e8 : u 8 = nI q) (hq : q ≤ e) (e10 : u 10 = nI st0) (enp : su 1 = nI np) (hnp : np ≤ 8) (enr : su 3 = nI nr) (hnr : nr ≤ 4)
    (h0 : ¬ nr < 4 → FK hm0 rd tp p s g tu tA gu gA Q hs 4 st0)
    (h1 : nr < 4 → ∀ st1 q1 v1 f1, nmO (tA 1) e q 0 (nI np - 1) st1 q1 v1 f1 → (f1 ≠ 0 → FK hm0 rd tp p s g tu tA gu gA Q hs f1 st1) ∧ (f1 = 0 → ∀ i, i < np → v1 = nI i → ∀ st2 q2 v2 f2, nmO (tA 1) e q1 1 (nI (min 6 (np - i))) st2 q2 v2 f2 → (f2 ≠ 0 → FK hm0 rd tp p s g tu tA gu gA Q hs f2 st2) ∧
      (f2 = 0 → ∀ l, 1 ≤ l → l ≤ min 6 (np - i) → v2 = nI l → (¬ (∀ x, x < l → sA 9 (i + x) = -1) → FK hm0 rd tp p s g tu tA gu gA Q hs 3 st2) ∧ ((∀ x, x < l → sA 9 (i + x) = -1) → ∀ hm' u' sA', RX hm0 hm' rd tp p s g u' tu tA pu pA (upd su 3 (nI nr + 1)) sA' gu gA →
        (∀ s, s ≠ 9 → s ≠ 12 → s ≠ 13 → sA' s = sA s) → sA' 12 = upd (sA 12) nr (nI i) → sA' 13 = upd (sA 13) nr (nI l) → (∀ x, sA' 9 x = if i ≤ x ∧ x < i + l then nI nr else sA 9 x) → (∀ s, s < 8 → u' s = u s) → u' 8 = nI q2 → Q (some (.int 1)) hm' hs)))) : CC X EV (d + 5) 54 [.ref rd] hm hs Q := by
  have hR := hX.r
  have hsc := hX.sc
  refine c_of (ls2 := [.ref rd, .null]) Y54 (Nat.le_of_ble_eq_true rfl) rfl I54 ?_
  simp only [r_al0 dX2_readRun_0, r_getf dX2_readRun_1 F2_47, r_getf dX2_readRun_4 F2_218, r_iconst dX2_readRun_7 ki4, r_ic_lt (tgt := 21) dX2_readRun_8 rfl, r_al0 dX2_readRun_11, r_iconst dX2_readRun_12 ki4, r_al0 dX2_readRun_13, r_getf dX2_readRun_14 F2_27, r_al0 dX2_readRun_21, r_iconst dX2_readRun_22 ki0, r_al0 dX2_readRun_23, r_getf dX2_readRun_24 F2_47, r_getf dX2_readRun_27 F2_203, r_iconst dX2_readRun_30 ki1, r_isub dX2_readRun_31, List.cons_append, List.nil_append, Nat.reduceAdd, Option.toList, g2_10, g2_6, g5_1, g5_3, z0, hR, rd_own hR, e10, ra_6, hsc.r, rd_own hsc.r, hsc.r, rd_own hsc.r, enp, enr, show (4 : Int32) = nI 4 from rfl]
  rw [show (nI nr < nI 4) = (nr < 4) from propext (nI_ltI (by omega) (by omega))]
  refine ⟨fun k => ?_, fun k => ?_⟩
  · have h1 := h1 k
    refine r_iv3 dX2_readRun_32 M2_149 Y46 O46 (Nat.le_of_ble_eq_true rfl) (rcv_own hR) (Nat.le_refl _) (Nat.le_refl _) ?_
    refine c_num hX e4 he e8 hq (fun st1 q1 v1 f1 hm1 u1 k1 k2 hX1 k3 k4 => ?_) (fun st1 q1 v1 hm1 u1 k2 hX1 k3 k4 k5 k6 => ?_)
    · skip
      simp only [r_if_ne (tgt := 40) dX2_readRun_35 rfl, r_iconst dX2_readRun_38 ki0, r_zret0 dX2_readRun_39 (Nat.zero_le _) (Nat.zero_le _), r_zret1 dX2_readRun_39 (Nat.zero_le _) (Nat.zero_le _), r_zretc dX2_readRun_39 (Nat.zero_le _) (Nat.zero_le _), r_al0 dX2_readRun_40, r_getf dX2_readRun_41 F2_33, r_is1 dX2_readRun_44, r_al0 dX2_readRun_45, r_iconst dX2_readRun_46 ki1, r_bipush dX2_readRun_47 kb6, r_al0 dX2_readRun_49, r_getf dX2_readRun_50 F2_47, r_getf dX2_readRun_53 F2_203, r_il1 dX2_readRun_56, r_isub dX2_readRun_57, r_min dX2_readRun_58 M2_221, List.cons_append, List.length_cons, List.length_nil, List.nil_append, Nat.le_refl, Nat.reduceAdd, Nat.reduceLeDiff, Nat.zero_le, Option.toList, cat_f, cat_i, cat_n, cat_r, eq_self, g2_12, g2_6, g5_1, true_and, z0]
      exact ⟨fun h => absurd trivial h, fun _ => (h1 st1 q1 v1 f1 k2).1 k1 _ _ _ _ _ _ hX1 k3 k4⟩
    · have hv := nmO_in k2
      have hn0 : 1 ≤ np := by
        rcases Nat.eq_zero_or_pos np with h | h
        · rw [h] at hv; exact absurd hv (by intro z; have := Int32.le_trans z.1 z.2; exact absurd this (by decide))
        · exact h
      rw [show nI np - 1 = nI (np - 1) by rw [show (1 : Int32) = nI 1 from rfl, nI_sub hn0]] at hv
      obtain ⟨i, hi, ei⟩ := ixle (by omega) hv.1 hv.2
      have h1 := (h1 st1 q1 v1 0 k2).2 rfl i (by omega) ei
      have hR1 := hX1.r
      have hsc1 := hX1.sc
      have emin : (if nI np - nI i < 6 then nI np - nI i else 6) = nI (min 6 (np - i)) := by
        rw [nI_sub (by omega), show (6 : Int32) = nI 6 from rfl]
        by_cases hc : np - i < 6
        · rw [if_pos ((nI_ltI (by omega) (by omega)).mpr hc), show min 6 (np - i) = np - i by omega]
        · rw [if_neg (fun z => hc ((nI_ltI (by omega) (by omega)).mp z)), show min 6 (np - i) = 6 by omega]
      rw [ei] at k6
      simp only [r_if_ne (tgt := 40) dX2_readRun_35 rfl, r_iconst dX2_readRun_38 ki0, r_zret0 dX2_readRun_39 (Nat.zero_le _) (Nat.zero_le _), r_zret1 dX2_readRun_39 (Nat.zero_le _) (Nat.zero_le _), r_zretc dX2_readRun_39 (Nat.zero_le _) (Nat.zero_le _), r_al0 dX2_readRun_40, r_getf dX2_readRun_41 F2_33, r_is1 dX2_readRun_44, r_al0 dX2_readRun_45, r_iconst dX2_readRun_46 ki1, r_bipush dX2_readRun_47 kb6, r_al0 dX2_readRun_49, r_getf dX2_readRun_50 F2_47, r_getf dX2_readRun_53 F2_203, r_il1 dX2_readRun_56, r_isub dX2_readRun_57, r_min dX2_readRun_58 M2_221, List.cons_append, List.length_cons, List.length_nil, List.nil_append, Nat.le_refl, Nat.reduceAdd, Nat.reduceLeDiff, Nat.zero_le, Option.toList, cat_f, cat_i, cat_n, cat_r, eq_self, g2_12, g2_6, g5_1, true_and, z0, hR1, rd_own hR1, ra_6, hsc1.r, rd_own hsc1.r, hsc1.r, rd_own hsc1.r, enp, k6, emin]
      refine ⟨fun _ => ?_, fun h => absurd (Classical.not_not.mp h) (by decide)⟩
      refine r_iv3 dX2_readRun_61 M2_149 Y46 O46 (Nat.le_of_ble_eq_true rfl) (rcv_own hR1) (Nat.le_refl _) (Nat.le_refl _) ?_
      refine c_num hX1 (by rw [k3 4 (by omega)]; exact e4) he k4 (nmO_le k2) (fun st2 q2 v2 f2 hm2 u2 g1 g2 hX3 g3 g4 => ?_) (fun st2 q2 v2 hm2 u2 g2 hX3 g3 g4 g5 g6 => ?_)
      · skip
        simp only [r_if_ne (tgt := 69) dX2_readRun_64 rfl, r_iconst dX2_readRun_67 ki0, r_zret0 dX2_readRun_68 (Nat.zero_le _) (Nat.zero_le _), r_zret1 dX2_readRun_68 (Nat.zero_le _) (Nat.zero_le _), r_zretc dX2_readRun_68 (Nat.zero_le _) (Nat.zero_le _), r_al0 dX2_readRun_69, r_getf dX2_readRun_70 F2_47, r_il1 dX2_readRun_73, r_al0 dX2_readRun_74, r_getf dX2_readRun_75 F2_33, List.cons_append, List.nil_append, Nat.reduceAdd, Option.toList, g2_12, g2_6, z0]
        exact ⟨fun h => absurd trivial h, fun _ => (h1 st2 q2 v2 f2 g2).1 g1 _ _ _ _ _ _ hX3 g3 g4⟩
      · have hv2 := nmO_in g2
        obtain ⟨l, hl, el⟩ := ixle (by omega) (Int32.le_trans (by decide) hv2.1) hv2.2
        have hl1 : 1 ≤ l := by
          rw [el, show (1 : Int32) = nI 1 from rfl, nI_leI (by omega) (by omega)] at hv2
          exact hv2.1
        obtain ⟨m1, m2⟩ := (h1 st2 q2 v2 0 g2).2 rfl l hl1 hl el
        have hR3 := hX3.r
        rw [el] at g6
        simp only [r_if_ne (tgt := 69) dX2_readRun_64 rfl, r_iconst dX2_readRun_67 ki0, r_zret0 dX2_readRun_68 (Nat.zero_le _) (Nat.zero_le _), r_zret1 dX2_readRun_68 (Nat.zero_le _) (Nat.zero_le _), r_zretc dX2_readRun_68 (Nat.zero_le _) (Nat.zero_le _), r_al0 dX2_readRun_69, r_getf dX2_readRun_70 F2_47, r_il1 dX2_readRun_73, r_al0 dX2_readRun_74, r_getf dX2_readRun_75 F2_33, List.cons_append, List.nil_append, Nat.reduceAdd, Option.toList, g2_12, g2_6, z0, hR3, rd_own hR3, ra_6, g6]
        refine ⟨fun _ => ?_, fun h => absurd (Classical.not_not.mp h) (by decide)⟩
        refine r_iv3 dX2_readRun_78 M2_227 Y71 O71 (Nat.le_of_ble_eq_true rfl) (rcv_own hX3.sc.r) (Nat.le_refl _) (Nat.le_refl _) ?_
        refine c_isFree hX3.sc (by omega) ?_
        simp only [r_if_ne (tgt := 94) dX2_readRun_81 rfl, r_al0 dX2_readRun_84, r_iconst dX2_readRun_85 ki3, r_al0 dX2_readRun_86, r_getf dX2_readRun_87 F2_27, r_al0 dX2_readRun_94, r_getf dX2_readRun_95 F2_47, r_il1 dX2_readRun_98, r_al0 dX2_readRun_99, r_getf dX2_readRun_100 F2_33, List.cons_append, List.nil_append, Nat.reduceAdd, Option.toList, g2_10, g2_12, g2_6, z0, hR3, rd_own hR3, ra_6, g6, g5]
        refine ⟨fun w => ?_, fun w => ?_⟩
        · skip
          refine r_iv3 dX2_readRun_103 M2_230 Y72 O72 (Nat.le_of_ble_eq_true rfl) (rcv_own hX3.sc.r) (Nat.le_refl _) (Nat.le_refl _) ?_
          refine c_addRun hX3.sc enr k (by omega) (fun hm4 A4 hP4 y1 y2 y3 y4 s4 => ?_)
          simp only [r_iconst dX2_readRun_106 ki1, r_zret0 dX2_readRun_107 (Nat.zero_le _) (Nat.zero_le _), r_zret1 dX2_readRun_107 (Nat.zero_le _) (Nat.zero_le _), r_zretc dX2_readRun_107 (Nat.zero_le _) (Nat.zero_le _), List.cons_append, List.nil_append, Nat.reduceAdd, Option.toList, z0]
          exact m2 (Classical.not_not.mp w) _ u2 A4 (hX3.s_sc hP4 s4) y1 y2 y3 y4 (fun s hs => (g3 s hs).trans (k3 s hs)) g4
        · skip
          refine r_iv3 dX2_readRun_90 M2_145 Y43 O43 (Nat.le_of_ble_eq_true rfl) (rcv_own hR3) (Nat.le_refl _) (Nat.le_refl _) ?_
          refine c_no (lab := 0) hX3 rfl ?_
          intro hm' u' pu' pA' su' sA' hX' y1 y2
          simp only [r_zret0 dX2_readRun_93 (Nat.zero_le _) (Nat.zero_le _), r_zret1 dX2_readRun_93 (Nat.zero_le _) (Nat.zero_le _), r_zretc dX2_readRun_93 (Nat.zero_le _) (Nat.zero_le _), List.cons_append, List.nil_append, Nat.reduceAdd, Option.toList, z0]
          exact m1 (Classical.not_not.mp w) hm' u' pu' pA' su' sA' hX' y1 y2
  · skip
    refine r_iv3 dX2_readRun_17 M2_145 Y43 O43 (Nat.le_of_ble_eq_true rfl) (rcv_own hR) (Nat.le_refl _) (Nat.le_refl _) ?_
    refine c_no (lab := 0) hX rfl ?_
    intro hm' u' pu' pA' su' sA' hX' k1 k2
    simp only [r_zret0 dX2_readRun_20 (Nat.zero_le _) (Nat.zero_le _), r_zret1 dX2_readRun_20 (Nat.zero_le _) (Nat.zero_le _), r_zretc dX2_readRun_20 (Nat.zero_le _) (Nat.zero_le _), List.cons_append, List.nil_append, Nat.reduceAdd, Option.toList, z0]
    exact h0 k hm' u' pu' pA' su' sA' hX' k1 k2
theorem c_readWord {st0 nl nw : Nat} (hX : RX hm0 hm rd tp p s g u tu tA pu pA su sA gu gA) (e4 : u 4 = nI e) (he : e ≤ 900) (e8 : u 8 = nI q) (hq : q ≤ e) (e10 : u 10 = nI st0) (enl : su 0 = nI nl) (hnl : nl ≤ 10) (enw : su 2 = nI nw) (hnw : nw ≤ 12)
    (h0 : ¬ nw < 12 → FK hm0 rd tp p s g tu tA gu gA Q hs 4 st0)
    (h1 : nw < 12 → ∀ st z, wdO (tA 1) e q st z → (¬ (1 ≤ z ∧ z ≤ 6) → FK hm0 rd tp p s g tu tA gu gA Q hs 1 st) ∧ (1 ≤ z → z ≤ 6 → (∀ k, k < z → (∀ x, x < k → ¬ fst1 (fun y => sA 4 y = tA 1 (st + x)) nl = -1) → fst1 (fun y => sA 4 y = tA 1 (st + k)) nl = -1 → FK hm0 rd tp p s g tu tA gu gA Q hs 3 st) ∧
      ((∀ x, x < z → ¬ fst1 (fun y => sA 4 y = tA 1 (st + x)) nl = -1) → ∀ hm' u' sA', RX hm0 hm' rd tp p s g u' tu tA pu pA (upd su 2 (nI nw + 1)) sA' gu gA → (∀ s, s ≠ 10 → s ≠ 11 → sA' s = sA s) → sA' 10 = upd (sA 10) nw (nI z) → (∀ x, sA' 11 x = if 6 * nw ≤ x ∧ x < 6 * nw + z then fst1 (fun y => sA 4 y = tA 1 (st + (x - 6 * nw))) nl else sA 11 x) → (∀ s, s < 8 → u' s = u s) → u' 8 = nI (st + z) → Q (some (.int 1)) hm' hs))) : CC X EV (d + 4) 53 [.ref rd] hm hs Q := by
  have had := hX.ad
  unfold adX at had
  have hR := hX.r
  have hsc := hX.sc
  refine c_of (ls2 := [.ref rd, .null, .null, .null]) Y53 (Nat.le_of_ble_eq_true rfl) rfl I53 ?_
  simp only [r_al0 dX2_readWord_0, r_getf dX2_readWord_1 F2_47, r_getf dX2_readWord_4 F2_209, r_bipush dX2_readWord_7 kb12, r_ic_lt (tgt := 22) dX2_readWord_9 rfl, r_al0 dX2_readWord_12, r_iconst dX2_readWord_13 ki4, r_al0 dX2_readWord_14, r_getf dX2_readWord_15 F2_27, r_al0 dX2_readWord_22, List.cons_append, List.nil_append, Nat.reduceAdd, Option.toList, g2_10, g2_6, g5_2, z0, hR, rd_own hR, e10, ra_6, hsc.r, rd_own hsc.r, hsc.r, rd_own hsc.r, enw, show (12 : Int32) = nI 12 from rfl]
  simp (disch := omega) only [E2, nI_1, nI_add, nI_leI, nI_ltI, nI_eq, nI_clamp]
  refine ⟨fun k => ?_, fun k => ?_⟩
  · have h1 := h1 k
    refine r_iv1 dX2_readWord_23 M2_63 Y37 O37 (Nat.le_of_ble_eq_true rfl) (rcv_own hR) (Nat.le_refl _) (Nat.le_refl _) ?_
    refine c_piece hX e4 he e8 hq (fun st z hm1 u1 k1 hX1 k2 k3 k4 k5 k6 k7 k8 => ?_)
    have h1 := h1 st z k1
    have hR1 := hX1.r
    have bad : ¬ (1 ≤ z ∧ z ≤ 6) → E1 X EV (d + 3) 2 0 0 (some .boolean) false cX2_readWord Q 49 [.ref rd, .null, .null, .null] [.int (nI st), .int 1, .ref rd] 0 0 hm1 hs := by
      intro hz
      refine r_iv3 dX2_readWord_49 M2_145 Y43 O43 (Nat.le_of_ble_eq_true rfl) (rcv_own hR1) (Nat.le_refl _) (Nat.le_refl _) ?_
      refine c_no (lab := 0) hX1 rfl ?_
      intro hm' u' pu' pA' su' sA' hX' y1 y2
      simp only [r_zret0 dX2_readWord_52 (Nat.zero_le _) (Nat.zero_le _), r_zret1 dX2_readWord_52 (Nat.zero_le _) (Nat.zero_le _), r_zretc dX2_readWord_52 (Nat.zero_le _) (Nat.zero_le _), List.cons_append, List.nil_append, Nat.reduceAdd, Option.toList, z0]
      exact h1.1 hz hm' u' pu' pA' su' sA' hX' y1 y2
    have hsc1 := hX1.sc
    simp only [r_al0 dX2_readWord_26, r_getf dX2_readWord_27 F2_24, r_iconst dX2_readWord_30 ki2, r_ic_ne (tgt := 43) dX2_readWord_31 rfl, r_al0 dX2_readWord_34, r_getf dX2_readWord_35 F2_30, r_bipush dX2_readWord_38 kb6, r_ic_leB (tgt := 53) dX2_readWord_40 rfl, r_al0 dX2_readWord_43, r_iconst dX2_readWord_44 ki1, r_al0 dX2_readWord_45, r_getf dX2_readWord_46 F2_27, List.cons_append, List.nil_append, Nat.reduceAdd, Option.toList, g2_10, g2_11, g2_9, z0, hR1, rd_own hR1, k3]
    refine ⟨fun w => bad (fun hz => w (k6.mpr (by omega))), fun w => ?_⟩
    have hz0 := k6.mp (Classical.not_not.mp w)
    obtain ⟨k71, k72, k73⟩ := k7 hz0
    rw [k71, show (6 : Int32) = nI 6 from rfl, show (nI z ≤ nI 6) = (z ≤ 6) from propext (nI_leI (by omega) (by omega))]
    refine ⟨fun w2 => ?_, fun w2 => bad (fun hz => w2 hz.2)⟩
    obtain ⟨m1, m2⟩ := h1.2 hz0 w2
    simp (disch := omega) only [E2, nI_1, nI_add, nI_leI, nI_ltI, nI_eq, nI_clamp]
    simp only [r_al0 dX2_readWord_53, r_getf dX2_readWord_54 F2_47, r_getf dX2_readWord_57 F2_209, r_is1 dX2_readWord_60, r_iconst dX2_readWord_61 ki0, r_is2 dX2_readWord_62, List.cons_append, List.nil_append, Nat.reduceAdd, Option.toList, cat_f, cat_i, cat_n, cat_r, eq_self, g2_6, g5_2, true_and, z0, hR1, rd_own hR1, ra_6, hsc1.r, rd_own hsc1.r, hsc1.r, rd_own hsc1.r, enw]
    have e6 : ∀ x, nI nw * 6 + nI x = nI (6 * nw + x) := fun x => by rw [show (6 : Int32) = nI 6 from rfl, pk_mul, nI_add, Nat.mul_comm]
    suffices H : ∀ k, k ≤ z → ∀ y hm2 sA2, RX hm0 hm2 rd tp p s g u1 tu tA pu pA su sA2 gu gA → (∀ x, x < k → ¬ fst1 (fun y => sA 4 y = tA 1 (st + x)) nl = -1) → (∀ s, s ≠ 11 → sA2 s = sA s) → (∀ x, sA2 11 x = if 6 * nw ≤ x ∧ x < 6 * nw + k then fst1 (fun y => sA 4 y = tA 1 (st + (x - 6 * nw))) nl else sA 11 x) → E1 X EV (d + 3) 2 0 0 (some .boolean) false cX2_readWord Q 63 [.ref rd, .int (nI nw), .int (nI k), y] [] 0 0 hm2 hs from
      H 0 (by omega) _ hm1 sA hX1 (fun x hx => absurd hx (Nat.not_lt_zero x)) (fun _ _ => rfl) (fun x => by rw [if_neg (by omega)])
    refine up_loop z _ ?_ ?_
    · intro y hm2 sA2 hX2 w3 w4 w5
      have hR2 := hX2.r
      have hsc2 := hX2.sc
      simp (disch := first | omega | (simp only [List.length_cons, List.length_nil]; omega)) only [r_il2 dX2_readWord_63, r_al0 dX2_readWord_64, r_getf dX2_readWord_65 F2_30, r_ic_ge (tgt := 129) dX2_readWord_68 rfl, r_al0 dX2_readWord_71, r_getf dX2_readWord_72 F2_47, r_al0 dX2_readWord_75, r_getf dX2_readWord_76 F2_36, r_getf dX2_readWord_79 F2_73, r_al0 dX2_readWord_82, r_getf dX2_readWord_83 F2_27, r_il2 dX2_readWord_86, r_iadd dX2_readWord_87, r_iald dX2_readWord_88, r_al0 dX2_readWord_129, r_getf dX2_readWord_130 F2_47, r_getf dX2_readWord_133 F2_215, r_il1 dX2_readWord_136, r_al0 dX2_readWord_137, r_getf dX2_readWord_138 F2_30, r_iast dX2_readWord_141, r_al0 dX2_readWord_142, r_getf dX2_readWord_143 F2_47, r_dup_i dX2_readWord_146, r_dup_r dX2_readWord_146, r_getf dX2_readWord_147 F2_209, r_iconst dX2_readWord_150 ki1, r_iadd dX2_readWord_151, r_putf dX2_readWord_152 F2_209, r_iconst dX2_readWord_155 ki1, r_zret0 dX2_readWord_156 (Nat.zero_le _) (Nat.zero_le _), r_zret1 dX2_readWord_156 (Nat.zero_le _) (Nat.zero_le _), r_zretc dX2_readWord_156 (Nat.zero_le _) (Nat.zero_le _), List.cons_append, List.nil_append, Nat.reduceAdd, Option.toList, aI_ok, fit_i, ft5_2, g2_10, g2_11, g2_3, g2_6, g5_10, g5_2, g8_1, p5_2, pk_un, pk_us, rd_up_eq, rd_up_ne, sI_ok, true_and, up_eq, up_ne, up_up, z0, hR2, rd_own hR2, k71, ra_6, hsc2.r, rd_own hsc2.r, hsc2.r10, rd_own hsc2.r10, enw, nI_clamp (show nw < 2 ^ 31 by omega)]
      refine ⟨fun _ => ⟨vp_in_nI (by omega) (by omega), ?_⟩, fun h => absurd (Int32.le_refl _) h⟩
      have hX3 := (hX2.s_sc ((hsc2.w10 (upd (sA2 10) nw (nI z))).o (upd su 2 (nI nw + 1))) ((sm.rf.up (by omega)).up (by omega)))
      refine m2 w3 _ u1 _ hX3 (fun s q1 q2 => ?_) ?_ ?_ k2 k72
      · rw [vu_ne q1]; exact w4 s q2
      · rw [vu_eq, w4 10 (by decide)]
      · rw [vu_ne (by decide)]; exact w5
    · intro k hk ih y hm2 sA2 hX2 w3 w4 w5
      have hR2 := hX2.r
      have hsc2 := hX2.sc
      have hT2 := hX2.tt
      simp (disch := first | omega | (simp only [List.length_cons, List.length_nil]; omega)) only [r_il2 dX2_readWord_63, r_al0 dX2_readWord_64, r_getf dX2_readWord_65 F2_30, r_ic_ge (tgt := 129) dX2_readWord_68 rfl, r_al0 dX2_readWord_71, r_getf dX2_readWord_72 F2_47, r_al0 dX2_readWord_75, r_getf dX2_readWord_76 F2_36, r_getf dX2_readWord_79 F2_73, r_al0 dX2_readWord_82, r_getf dX2_readWord_83 F2_27, r_il2 dX2_readWord_86, r_iadd dX2_readWord_87, r_iald dX2_readWord_88, r_al0 dX2_readWord_129, r_getf dX2_readWord_130 F2_47, r_getf dX2_readWord_133 F2_215, r_il1 dX2_readWord_136, r_al0 dX2_readWord_137, r_getf dX2_readWord_138 F2_30, r_iast dX2_readWord_141, r_al0 dX2_readWord_142, r_getf dX2_readWord_143 F2_47, r_dup_i dX2_readWord_146, r_dup_r dX2_readWord_146, r_getf dX2_readWord_147 F2_209, r_iconst dX2_readWord_150 ki1, r_iadd dX2_readWord_151, r_putf dX2_readWord_152 F2_209, r_iconst dX2_readWord_155 ki1, r_zret0 dX2_readWord_156 (Nat.zero_le _) (Nat.zero_le _), r_zret1 dX2_readWord_156 (Nat.zero_le _) (Nat.zero_le _), r_zretc dX2_readWord_156 (Nat.zero_le _) (Nat.zero_le _), List.cons_append, List.nil_append, Nat.reduceAdd, Option.toList, aI_ok, fit_i, ft5_2, g2_10, g2_11, g2_3, g2_6, g5_10, g5_2, g8_1, p5_2, pk_un, pk_us, rd_up_eq, rd_up_ne, sI_ok, true_and, up_eq, up_ne, up_up, z0, hR2, rd_own hR2, k71, ra_6, ra_3, hT2.r, rd_own hT2.r, hT2.r1, rd_own hT2.r1, k3, nI_add]
      simp (disch := omega) only [E2, nI_1, nI_add, nI_leI, nI_ltI, nI_eq, nI_clamp]
      refine ⟨fun h => absurd h (by omega), fun _ => ⟨vp_in_nI (by omega) (by omega), ?_⟩⟩
      refine r_iv2 dX2_readWord_89 M2_195 Y68 O68 (Nat.le_of_ble_eq_true rfl) (rcv_own hsc2.r) (Nat.le_refl _) (Nat.le_refl _) ?_
      refine c_letterNamed hsc2 enl hnl ?_
      rw [w4 4 (by decide)]
      simp (disch := first | omega | (simp only [List.length_cons, List.length_nil]; omega)) only [r_is3 dX2_readWord_92, r_il3 dX2_readWord_93, r_iconst dX2_readWord_94 kim1, r_ic_ne (tgt := 108) dX2_readWord_95 rfl, r_al0 dX2_readWord_98, r_iconst dX2_readWord_99 ki3, r_al0 dX2_readWord_100, r_getf dX2_readWord_101 F2_27, r_al0 dX2_readWord_108, r_getf dX2_readWord_109 F2_47, r_getf dX2_readWord_112 F2_212, r_il1 dX2_readWord_115, r_bipush dX2_readWord_116 kb6, r_imul dX2_readWord_118, r_il2 dX2_readWord_119, r_iadd dX2_readWord_120, r_il3 dX2_readWord_121, r_iast dX2_readWord_122, r_ii2 dX2_readWord_123 kn1, r_gotoB (tgt := 63) dX2_readWord_126 rfl, List.cons_append, List.nil_append, Nat.reduceAdd, Option.toList, cat_f, cat_i, cat_n, cat_r, eq_self, g2_10, g2_6, g5_11, pk_un, pk_us, rd_up_eq, rd_up_ne, sI_ok, true_and, up_eq, up_ne, up_up, z0, hR2, rd_own hR2, k3, ra_6, hsc2.r, rd_own hsc2.r, hsc2.r11, rd_own hsc2.r11, e6, nI_clamp (show 6 * nw + k < 2 ^ 31 by omega)]
      refine ⟨fun w6 => ⟨vp_in_nI (by omega) (by omega), ?_⟩, fun w6 => ?_⟩
      · simp (disch := omega) only [E2, nI_1, nI_add, nI_leI, nI_ltI, nI_eq, nI_clamp]
        refine ih _ _ _ (hX2.s_sc (hsc2.w11 _) (sm.rf.up (by omega))) (fun x hx => ?_) (fun s q1 => by rw [vu_ne q1]; exact w4 s q1) (fun x => ?_)
        · rcases Nat.lt_or_ge x k with h' | h'
          · exact w3 x h'
          · rw [show x = k by omega]; exact w6
        · rw [vu_eq]
          by_cases hx : x = 6 * nw + k
          · rw [hx, pk_us, if_pos (by omega), show 6 * nw + k - 6 * nw = k by omega]
          · rw [pk_un hx, w5 x]
            by_cases hy : 6 * nw ≤ x ∧ x < 6 * nw + k
            · rw [if_pos hy, if_pos (by omega)]
            · rw [if_neg hy, if_neg (by omega)]
      · skip
        refine r_iv3 dX2_readWord_104 M2_145 Y43 O43 (Nat.le_of_ble_eq_true rfl) (rcv_own hR2) (Nat.le_refl _) (Nat.le_refl _) ?_
        refine c_no (lab := 0) hX2 rfl ?_
        intro hm' u' pu' pA' su' sA' hX' y1 y2
        simp only [r_zret0 dX2_readWord_107 (Nat.zero_le _) (Nat.zero_le _), r_zret1 dX2_readWord_107 (Nat.zero_le _) (Nat.zero_le _), r_zretc dX2_readWord_107 (Nat.zero_le _) (Nat.zero_le _), List.cons_append, List.nil_append, Nat.reduceAdd, Option.toList, z0]
        exact m1 k hk w3 (Classical.not_not.mp w6) hm' u' pu' pA' su' sA' hX' y1 y2
  · skip
    refine r_iv3 dX2_readWord_18 M2_145 Y43 O43 (Nat.le_of_ble_eq_true rfl) (rcv_own hR) (Nat.le_refl _) (Nat.le_refl _) ?_
    refine c_no (lab := 0) hX rfl ?_
    intro hm' u' pu' pA' su' sA' hX' k1 k2
    simp only [r_zret0 dX2_readWord_21 (Nat.zero_le _) (Nat.zero_le _), r_zret1 dX2_readWord_21 (Nat.zero_le _) (Nat.zero_le _), r_zretc dX2_readWord_21 (Nat.zero_le _) (Nat.zero_le _), List.cons_append, List.nil_append, Nat.reduceAdd, Option.toList, z0]
    exact h0 k hm' u' pu' pA' su' sA' hX' k1 k2
end R4
