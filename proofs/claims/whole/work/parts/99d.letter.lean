def leS (S : Nat → Int32) (nl : Nat) (a v1 v2 : Int32) : Nat → Int32 := upd (upd (upd (upd S (55 + 2 * nl) a) (55 + 2 * nl + 1) v1) (207 + nl) v2) 3 (nI (nl + 1))
/-- a letter by its name -/
def lnm (S : Nat → Int32) (nl : Nat) (c : Int32) : Int32 := fst1 (fun k => S (55 + 2 * k) = c - 96) nl
def BLetter (T : Nat → Int32) (e q : Nat) (S : Nat → Int32) (nl : Nat) (o : OU) : Prop := ∃ st z, wdO T e q st z ∧ ((z ≠ 1 ∧ o = oNo 1 st none) ∨ (z = 1 ∧ ((¬ lnm S nl (T st) = -1 ∧ o = oNo 3 st none) ∨ (lnm S nl (T st) = -1 ∧ ∃ st1 q1 v1 f1, nmO T e (st + 1) 1 511 st1 q1 v1 f1 ∧
  ((f1 ≠ 0 ∧ o = oNo f1 st1 none) ∨ (f1 = 0 ∧ ∃ st2 q2 v2 f2, nmO T e q1 1 99 st2 q2 v2 f2 ∧ ((f2 ≠ 0 ∧ o = oNo f2 st2 none) ∨ (f2 = 0 ∧ o = oOk q2 (leS S nl (T st - 96) v1 v2)))))))))
theorem by_sm {T : Nat → Int32} {e i : Nat} (hB : BY T e) (hi : i < e) (hs : isSm (T i)) : T i &&& 255 = T i := by
  obtain ⟨b, hb, eb⟩ := hB i hi
  obtain ⟨h1, h2, h3⟩ := by_k b hb
  rcases Nat.lt_or_ge b 128 with h | h
  · rw [eb, h1, h2 h]
  · have := h3 h
    rw [← eb] at this
    have h4 := hs.1
    grind
theorem by_is {T : Nat → Int32} {e st : Nat} (hB : BY T e) : isSm (if st < e then T st &&& 255 else -1) ↔ (st < e ∧ isSm (T st)) := by
  by_cases hl : st < e
  · rw [if_pos hl]
    obtain ⟨b, hb, eb⟩ := hB st hl
    rw [(by_dg hb eb).2.1]; exact ⟨fun z => ⟨hl, z⟩, fun z => z.2⟩
  · rw [if_neg hl]; exact ⟨fun z => absurd z (by unfold isSm; decide), fun z => absurd z.1 hl⟩
section MF
variable {X : HM} {EV : Nat → Value} {d : Nat} {hm : HM} {hs : Nat} {Q : QT} {m nl : Nat} {u : Nat → Int32} {A : Nat → Nat → Int32} {R : Nat → Int64} {e q bg : Nat} {o : OU}
theorem m_letterNamed {c : Int32} (hM : MO hm m u A R) (hn : A 0 3 = nI nl) (hn10 : nl ≤ 10) (hQ : Q (some (.int (lnm (A 0) nl c))) hm hs) : CC X EV (d + 1) 176 [.ref m, .int (c - 96)] hm hs Q := by
  refine c_of (ls2 := [.ref m, .int (c - 96), .null]) Y176 (Nat.le_of_ble_eq_true rfl) rfl I176 ?_
  simp only [r_iconst dX10_letterNamed_0 ki0, r_is2 dX10_letterNamed_1, List.cons_append, List.nil_append, Nat.reduceAdd, Option.toList, cat_f, cat_i, cat_n, cat_r, eq_self, true_and, z0]
  suffices H : ∀ k, k ≤ nl → (∀ j, j < k → ¬ A 0 (55 + 2 * j) = c - 96) → E1 X EV d 10 0 0 (some .int) false cX10_letterNamed Q 2 [.ref m, .int (c - 96), .int (nI k)] [] 0 0 hm hs from H 0 (by omega) (fun j hj => absurd hj (Nat.not_lt_zero j))
  refine up_loop nl _ ?_ ?_
  · intro hno
    simp only [r_il2 dX10_letterNamed_2, r_al0 dX10_letterNamed_3, r_getf dX10_letterNamed_4 F10_13, r_iconst dX10_letterNamed_7 ki3, r_iald dX10_letterNamed_8, r_ic_ge (tgt := 35) dX10_letterNamed_9 rfl, r_al0 dX10_letterNamed_12, r_getf dX10_letterNamed_13 F10_13, r_bipush dX10_letterNamed_16 kb55, r_iconst dX10_letterNamed_18 ki2, r_il2 dX10_letterNamed_19, r_imul dX10_letterNamed_20, r_iadd dX10_letterNamed_21, r_iald dX10_letterNamed_22, r_il1 dX10_letterNamed_23, r_ic_ne (tgt := 29) dX10_letterNamed_24 rfl, r_il2 dX10_letterNamed_27, r_iret dX10_letterNamed_28 (Nat.zero_le _) (Nat.zero_le _), r_ii2 dX10_letterNamed_29 kn1, r_gotoB (tgt := 2) dX10_letterNamed_32 rfl, r_iconst dX10_letterNamed_35 kim1, r_iret dX10_letterNamed_36 (Nat.zero_le _) (Nat.zero_le _), List.cons_append, List.nil_append, Nat.reduceAdd, Option.toList, aI_ok, cat_f, cat_i, cat_n, cat_r, eq_self, g10_0, true_and, z0, hM.r, rd_own hM.r, hM.r0, rd_own hM.r0, vs3, ck3, hn, true_and]
    rw [lnm, fst1_none hno] at hQ
    exact ⟨fun _ => hQ, fun h => absurd (Int32.le_refl _) h⟩
  · intro k hk ih hno
    simp only [r_il2 dX10_letterNamed_2, r_al0 dX10_letterNamed_3, r_getf dX10_letterNamed_4 F10_13, r_iconst dX10_letterNamed_7 ki3, r_iald dX10_letterNamed_8, r_ic_ge (tgt := 35) dX10_letterNamed_9 rfl, r_al0 dX10_letterNamed_12, r_getf dX10_letterNamed_13 F10_13, r_bipush dX10_letterNamed_16 kb55, r_iconst dX10_letterNamed_18 ki2, r_il2 dX10_letterNamed_19, r_imul dX10_letterNamed_20, r_iadd dX10_letterNamed_21, r_iald dX10_letterNamed_22, r_il1 dX10_letterNamed_23, r_ic_ne (tgt := 29) dX10_letterNamed_24 rfl, r_il2 dX10_letterNamed_27, r_iret dX10_letterNamed_28 (Nat.zero_le _) (Nat.zero_le _), r_ii2 dX10_letterNamed_29 kn1, r_gotoB (tgt := 2) dX10_letterNamed_32 rfl, r_iconst dX10_letterNamed_35 kim1, r_iret dX10_letterNamed_36 (Nat.zero_le _) (Nat.zero_le _), List.cons_append, List.nil_append, Nat.reduceAdd, Option.toList, aI_ok, cat_f, cat_i, cat_n, cat_r, eq_self, g10_0, true_and, z0, hM.r, rd_own hM.r, hM.r0, rd_own hM.r0, vs3, ck3, hn, true_and, s55, nI_clamp (show 55 + 2 * k < 2 ^ 31 by omega)]
    refine ⟨fun h => absurd ((nI_leI (by omega) (by omega)).mp h) (by omega), fun _ => ⟨vp_in_nI (by omega) (by omega), fun h => ?_, fun h => ?_⟩⟩
    · try simp (disch := omega) only [E2, nI_1, nI_add, nI_leI, nI_ltI, nI_eq, nI_clamp]
      exact ih (fun j hj => by
        rcases Nat.lt_or_ge j k with h' | h'
        · exact hno j h'
        · rw [show j = k by omega]; exact h)
    · rw [lnm, fst1_some (by omega) hk (Classical.not_not.mp h) hno] at hQ
      exact hQ
theorem m_letterRead (hM : MO hm m u A R) (hB : BY (A 5) e) (e7 : u 7 = nI e) (he : e ≤ 900) (e8 : u 8 = nI q) (hq : q ≤ e) (h9 : u 9 = 0) (hn : A 0 3 = nI nl) (hn10 : nl < 10) (hb : BLetter (A 5) e q (A 0) nl o)
    (hQ : ∀ hm' u' A', MO hm' m u' A' R → KL u u' A A' → RO o u u' A A' → sm m (m + 16) hm hm' → Q none hm' hs) : CC X EV (d + 4) 177 [.ref m, .int (nI (55 + 2 * nl))] hm hs Q := by
  obtain ⟨st, z, ⟨hst, hz⟩, hb⟩ := hb
  have hse := hst.2.1
  refine c_of (ls2 := [.ref m, .int (nI (55 + 2 * nl)), .null, .null, .null, .null]) Y177 (Nat.le_of_ble_eq_true rfl) rfl I177 ?_
  simp only [r_al0 dX10_letterRead_0, List.cons_append, List.nil_append, Nat.reduceAdd, Option.toList, z0]
  refine r_iv1 dX10_letterRead_1 M10_95 Y160 O160 (Nat.le_of_ble_eq_true rfl) (rcv_own hM.r) (Nat.le_refl _) (Nat.le_refl _) ?_
  refine m_peek hM e7 he e8 hq (fun st0 hm1 hst0 hM1 s1 => ?_)
  have es := nxq_un hst0 hst
  subst es
  have r7 : (upd u 8 (nI st0)) 7 = nI e := (pk_un (by decide)).trans e7
  have r9 : (upd u 8 (nI st0)) 9 = 0 := (pk_un (by decide)).trans h9
  have ks1 : KS u (upd u 8 (nI st0)) := fun k h1 _ _ _ => pk_un h1
  have w55 : ∀ hm' u' a b c dd, MO hm' m u' A R → ¬ u' 9 = 0 → Q none hm' hs → E1 X EV (d + 3) 10 0 0 none false cX10_letterRead Q 55 [.ref m, a, b, c, dd, .null] [] 0 0 hm' hs := by
    intro hm' u' a b c dd hM' h9' hq
    simp (disch := first | omega | (simp only [List.length_cons, List.length_nil]; omega)) only [r_al0 dX10_letterRead_55, r_getf dX10_letterRead_56 F10_76, r_if_eq (tgt := 63) dX10_letterRead_59 rfl, r_vret dX10_letterRead_62 (Nat.zero_le _) (Nat.zero_le _), r_al0 dX10_letterRead_63, r_dup_i dX10_letterRead_64, r_dup_r dX10_letterRead_64, r_getf dX10_letterRead_65 F10_70, r_iconst dX10_letterRead_68 ki1, r_iadd dX10_letterRead_69, r_putf dX10_letterRead_70 F10_70, r_al0 dX10_letterRead_73, r_iconst dX10_letterRead_74 ki1, r_sipush dX10_letterRead_75 ks511, List.cons_append, List.nil_append, Nat.reduceAdd, Option.toList, fit_i, ft10_8, g10_8, g10_9, p10_8, pk_un, pk_us, rd_up_eq, rd_up_ne, true_and, up_eq, up_ne, up_up, z0, hM'.r, rd_own hM'.r, hM'.r, rd_own hM'.r]
    exact ⟨fun z => absurd z h9', fun _ => hq⟩
  simp only [r_is2 dX10_letterRead_4, r_al0 dX10_letterRead_5, List.cons_append, List.nil_append, Nat.reduceAdd, Option.toList, cat_f, cat_i, cat_n, cat_r, eq_self, true_and, z0]
  refine r_iv1 dX10_letterRead_6 M10_99 Y164 O164 (Nat.le_of_ble_eq_true rfl) (rcv_own hM1.r) (Nat.le_refl _) (Nat.le_refl _) ?_
  refine m_lettersHere hM1 r7 he pk_us hse (fun y hy => ?_)
  simp only [r_is3 dX10_letterRead_9, r_il2 dX10_letterRead_10, List.cons_append, List.nil_append, Nat.reduceAdd, Option.toList, cat_f, cat_i, cat_n, cat_r, eq_self, true_and, z0]
  refine r_ist1 dX10_letterRead_11 M10_91 Y162 (Nat.le_of_ble_eq_true rfl) (Nat.le_refl _) (Nat.le_refl _) ?_
  have bad : ∀ a b, z ≠ 1 → E1 X EV (d + 3) 10 0 0 none false cX10_letterRead Q 22 [.ref m, .int (nI (55 + 2 * nl)), a, b, .null, .null] [] 0 0 hm1 hs := by
    intro a b hz1
    have ho := (hb.resolve_right (fun y => hz1 y.1)).2
    simp only [r_al0 dX10_letterRead_22, r_iconst dX10_letterRead_23 ki1, r_al0 dX10_letterRead_24, r_getf dX10_letterRead_25 F10_70, List.cons_append, List.nil_append, Nat.reduceAdd, Option.toList, g10_8, z0, hM1.r, rd_own hM1.r, hM1.r, rd_own hM1.r, pk_us]
    refine r_iv3 dX10_letterRead_28 M10_116 Y161 O161 (Nat.le_of_ble_eq_true rfl) (rcv_own hM1.r) (Nat.le_refl _) (Nat.le_refl _) ?_
    refine m_fails hM1 (fun z => absurd r9 z) (fun _ hm2 hM2 s2 => ?_)
    simp only [r_gotoB (tgt := 55) dX10_letterRead_31 rfl, List.cons_append, List.nil_append, Nat.reduceAdd, Option.toList, z0]
    try simp (disch := omega) only [E2, nI_1, nI_add, nI_leI, nI_ltI, nI_eq, nI_clamp]
    refine w55 hm2 _ _ _ _ _ hM2 (by rw [pk_un (by decide), pk_us]; decide) ?_
    exact hQ hm2 _ A hM2 (ks1.kl (A := A)) (by rw [ho]; exact ⟨rfl, rfl, ks1.r18, rfl⟩) (s1.trans s2)
  refine m_isLetter (fun hd => ?_) (fun hd => ?_)
  · obtain ⟨hl, hsm⟩ := (by_is hB).mp hd
    have hz := hz.resolve_left (fun y => y.2 ⟨hl, hsm⟩)
    have ey : y = z := by have := nxq_un hy hz.2.2.2; omega
    subst ey
    rw [if_pos hl, by_sm hB hl hsm]
    have hye := hy.2.1
    simp only [r_if_eqB (tgt := 22) dX10_letterRead_14 rfl, r_il3 dX10_letterRead_17, r_iconst dX10_letterRead_18 ki1, r_ic_leB (tgt := 34) dX10_letterRead_19 rfl, List.cons_append, List.nil_append, Nat.reduceAdd, Option.toList, z0, show (1 : Int32) = nI 1 from rfl]
    refine ⟨fun z => absurd z (by decide), fun _ => ⟨fun hle => ?_, fun hgt => ?_⟩⟩
    · rw [nI_leI (by omega) (by omega)] at hle
      have e1 : y = 1 := by omega
      subst e1
      have hb := (hb.resolve_left (fun y => y.1 rfl)).2
      try simp (disch := omega) only [E2, nI_1, nI_add, nI_leI, nI_ltI, nI_eq, nI_clamp]
      simp only [r_al0 dX10_letterRead_34, r_il2 dX10_letterRead_35, r_bipush dX10_letterRead_36 kb96, r_isub dX10_letterRead_38, List.cons_append, List.nil_append, Nat.reduceAdd, Option.toList, z0]
      refine r_iv2 dX10_letterRead_39 M10_184 Y176 O176 (Nat.le_of_ble_eq_true rfl) (rcv_own hM1.r) (Nat.le_refl _) (Nat.le_refl _) ?_
      refine m_letterNamed hM1 (nl := nl) hn (by omega) ?_
      rcases hb with ⟨hnm, ho⟩ | ⟨hnm, st1, q1, v1, f1, hn1, hb⟩
      · simp only [r_iconst dX10_letterRead_42 kim1, r_ic_eqB (tgt := 55) dX10_letterRead_43 rfl, r_al0 dX10_letterRead_46, r_iconst dX10_letterRead_47 ki3, r_al0 dX10_letterRead_48, r_getf dX10_letterRead_49 F10_70, List.cons_append, List.nil_append, Nat.reduceAdd, Option.toList, g10_8, z0, hM1.r, rd_own hM1.r, hM1.r, rd_own hM1.r, pk_us]
        refine ⟨fun z => absurd z hnm, fun _ => ?_⟩
        refine r_iv3 dX10_letterRead_52 M10_116 Y161 O161 (Nat.le_of_ble_eq_true rfl) (rcv_own hM1.r) (Nat.le_refl _) (Nat.le_refl _) ?_
        refine m_fails hM1 (fun z => absurd r9 z) (fun _ hm2 hM2 s2 => ?_)
        refine w55 hm2 _ _ _ _ _ hM2 (by rw [pk_un (by decide), pk_us]; decide) ?_
        exact hQ hm2 _ A hM2 (ks1.kl (A := A)) (by rw [ho]; exact ⟨rfl, rfl, ks1.r18, rfl⟩) (s1.trans s2)
      · rw [hnm]
        simp only [r_iconst dX10_letterRead_42 kim1, r_ic_eqB (tgt := 55) dX10_letterRead_43 rfl, r_al0 dX10_letterRead_46, r_iconst dX10_letterRead_47 ki3, r_al0 dX10_letterRead_48, r_getf dX10_letterRead_49 F10_70, List.cons_append, List.nil_append, Nat.reduceAdd, Option.toList, g10_8, z0]
        refine ⟨fun _ => ?_, fun z => absurd trivial z⟩
        try simp (disch := omega) only [E2, nI_1, nI_add, nI_leI, nI_ltI, nI_eq, nI_clamp]
        have hM2 := hM1.o (upd (upd u 8 (nI st0)) 8 (nI (st0 + 1)))
        simp (disch := first | omega | (simp only [List.length_cons, List.length_nil]; omega)) only [r_al0 dX10_letterRead_55, r_getf dX10_letterRead_56 F10_76, r_if_eq (tgt := 63) dX10_letterRead_59 rfl, r_vret dX10_letterRead_62 (Nat.zero_le _) (Nat.zero_le _), r_al0 dX10_letterRead_63, r_dup_i dX10_letterRead_64, r_dup_r dX10_letterRead_64, r_getf dX10_letterRead_65 F10_70, r_iconst dX10_letterRead_68 ki1, r_iadd dX10_letterRead_69, r_putf dX10_letterRead_70 F10_70, r_al0 dX10_letterRead_73, r_iconst dX10_letterRead_74 ki1, r_sipush dX10_letterRead_75 ks511, List.cons_append, List.nil_append, Nat.reduceAdd, Option.toList, fit_i, ft10_8, g10_8, g10_9, p10_8, pk_un, pk_us, rd_up_eq, rd_up_ne, true_and, up_eq, up_ne, up_up, z0, hM1.r, rd_own hM1.r, hM1.r, rd_own hM1.r, r9, pk_us, nI_1]
        refine ⟨fun _ => ?_, fun z => absurd h9 z⟩
        have l1 := nm_f hn1
        have ks2 : KS u (upd (upd u 8 (nI st0)) 8 (nI (st0 + 1))) := fun k h1 _ _ _ => by rw [pk_un h1, pk_un h1]
        have s2 := s1.up (a := m) (c := .inr (10, fs_MO m (upd (upd u 8 (nI st0)) 8 (nI (st0 + 1))))) (by omega)
        refine r_iv3 dX10_letterRead_78 M10_135 Y166 O166 (Nat.le_of_ble_eq_true rfl) (rcv_own hM2.r) (Nat.le_refl _) (Nat.le_refl _) ?_
        refine m_numeral hM2 hB (by rw [pk_un (by decide)]; exact r7) he pk_us (by omega) (by rw [pk_un (by decide)]; exact r9) (by decide) hn1 (fun hm3 u3 hM3 ks3 g9 g0 gf s3 => ?_)
        have ks := ks2.trans ks3
        have s3 := s2.trans s3
        have r73 : u3 7 = nI e := (ks 7 (by decide) (by decide) (by decide) (by decide)).trans e7
        rcases hb with ⟨hf, ho⟩ | ⟨hf, st2, q2, v2, f2, hn2, hb⟩
        · rw [if_neg hf]
          simp only [r_is4 dX10_letterRead_81, r_al0 dX10_letterRead_83, r_iconst dX10_letterRead_84 ki1, r_bipush dX10_letterRead_85 kb99, List.cons_append, List.nil_append, Nat.reduceAdd, Option.toList, cat_f, cat_i, cat_n, cat_r, eq_self, true_and, z0]
          refine r_iv3 dX10_letterRead_87 M10_135 Y166 O166 (Nat.le_of_ble_eq_true rfl) (rcv_own hM3.r) (Nat.le_refl _) (Nat.le_refl _) ?_
          refine m_numeralw hM3 (by rw [g9]; exact nI_f l1 hf) ?_
          simp (disch := first | omega | (simp only [List.length_cons, List.length_nil]; omega)) only [r_is5 dX10_letterRead_90, r_al0 dX10_letterRead_92, r_getf dX10_letterRead_93 F10_76, r_if_eq (tgt := 100) dX10_letterRead_96 rfl, r_vret dX10_letterRead_99 (Nat.zero_le _) (Nat.zero_le _), r_al0 dX10_letterRead_100, r_getf dX10_letterRead_101 F10_13, r_il1 dX10_letterRead_104, r_il2 dX10_letterRead_105, r_bipush dX10_letterRead_106 kb96, r_isub dX10_letterRead_108, r_iast dX10_letterRead_109, r_al0 dX10_letterRead_110, r_getf dX10_letterRead_111 F10_13, r_il1 dX10_letterRead_114, r_iconst dX10_letterRead_115 ki1, r_iadd dX10_letterRead_116, r_il4 dX10_letterRead_117, r_iast dX10_letterRead_119, r_al0 dX10_letterRead_120, r_getf dX10_letterRead_121 F10_13, r_sipush dX10_letterRead_124 ks207, r_al0 dX10_letterRead_127, r_getf dX10_letterRead_128 F10_13, r_iconst dX10_letterRead_131 ki3, r_iald dX10_letterRead_132, r_iadd dX10_letterRead_133, r_il5 dX10_letterRead_134, r_iast dX10_letterRead_136, r_al0 dX10_letterRead_137, r_getf dX10_letterRead_138 F10_13, r_iconst dX10_letterRead_141 ki3, r_dup2_ir dX10_letterRead_142, r_dup2_l dX10_letterRead_142, r_iald dX10_letterRead_143, r_iconst dX10_letterRead_144 ki1, r_iadd dX10_letterRead_145, r_iast dX10_letterRead_146, r_vret dX10_letterRead_147 (Nat.zero_le _) (Nat.zero_le _), List.cons_append, List.nil_append, Nat.reduceAdd, Option.toList, aI_ok, cat_f, cat_i, cat_n, cat_r, eq_self, g10_0, g10_9, pk_un, pk_us, rd_up_eq, rd_up_ne, sI_ok, true_and, up_eq, up_ne, up_up, z0, hM3.r, rd_own hM3.r, hM3.r, rd_own hM3.r, g9]
          refine ⟨fun z => absurd z (nI_f l1 hf), fun _ => ?_⟩
          exact hQ hm3 u3 A hM3 (ks.kl (A := A)) (by rw [ho]; exact ⟨g9, gf hf, ks.r18, rfl⟩) s3
        · subst hf
          obtain ⟨g8, g11, g10⟩ := g0 rfl
          have l2 := nm_f hn2
          rw [if_pos rfl]
          simp only [r_is4 dX10_letterRead_81, r_al0 dX10_letterRead_83, r_iconst dX10_letterRead_84 ki1, r_bipush dX10_letterRead_85 kb99, List.cons_append, List.nil_append, Nat.reduceAdd, Option.toList, cat_f, cat_i, cat_n, cat_r, eq_self, true_and, z0]
          refine r_iv3 dX10_letterRead_87 M10_135 Y166 O166 (Nat.le_of_ble_eq_true rfl) (rcv_own hM3.r) (Nat.le_refl _) (Nat.le_refl _) ?_
          refine m_numeral hM3 hB r73 he g8 (nm_q hn1) g9 (by decide) hn2 (fun hm4 u4 hM4 ks4 w9 w0 wf s4 => ?_)
          have ks' := ks.trans ks4
          have s4 := s3.trans s4
          rcases hb with ⟨hf, ho⟩ | ⟨hf, ho⟩
          · rw [if_neg hf]
            simp only [r_is5 dX10_letterRead_90, r_al0 dX10_letterRead_92, r_getf dX10_letterRead_93 F10_76, r_if_eqB (tgt := 100) dX10_letterRead_96 rfl, r_vret dX10_letterRead_99 (Nat.zero_le _) (Nat.zero_le _), List.cons_append, List.nil_append, Nat.reduceAdd, Option.toList, cat_f, cat_i, cat_n, cat_r, eq_self, g10_9, true_and, z0, hM4.r, rd_own hM4.r, hM4.r, rd_own hM4.r, w9]
            refine ⟨fun z => absurd z (nI_f l2 hf), fun _ => ?_⟩
            exact hQ hm4 u4 A hM4 (ks'.kl (A := A)) (by rw [ho]; exact ⟨w9, wf hf, ks'.r18, rfl⟩) s4
          · subst hf
            obtain ⟨w8, w11, w10⟩ := w0 rfl
            rw [if_pos rfl]
            have p1 : nI (55 + 2 * nl) + 1 = nI (55 + 2 * nl + 1) := nI_add _ 1
            have c3 : ∀ a b, upd (upd (A 0) (55 + 2 * nl) a) (55 + 2 * nl + 1) b 3 = nI nl := fun a b => by rw [pk_un (by omega), pk_un (by omega)]; exact hn
            have c3' : ∀ a b c, upd (upd (upd (A 0) (55 + 2 * nl) a) (55 + 2 * nl + 1) b) (207 + nl) c 3 = nI nl := fun a b c => by rw [pk_un (by omega)]; exact c3 a b
            simp (disch := first | omega | (simp only [List.length_cons, List.length_nil]; omega)) only [r_is5 dX10_letterRead_90, r_al0 dX10_letterRead_92, r_getf dX10_letterRead_93 F10_76, r_if_eq (tgt := 100) dX10_letterRead_96 rfl, r_vret dX10_letterRead_99 (Nat.zero_le _) (Nat.zero_le _), r_al0 dX10_letterRead_100, r_getf dX10_letterRead_101 F10_13, r_il1 dX10_letterRead_104, r_il2 dX10_letterRead_105, r_bipush dX10_letterRead_106 kb96, r_isub dX10_letterRead_108, r_iast dX10_letterRead_109, r_al0 dX10_letterRead_110, r_getf dX10_letterRead_111 F10_13, r_il1 dX10_letterRead_114, r_iconst dX10_letterRead_115 ki1, r_iadd dX10_letterRead_116, r_il4 dX10_letterRead_117, r_iast dX10_letterRead_119, r_al0 dX10_letterRead_120, r_getf dX10_letterRead_121 F10_13, r_sipush dX10_letterRead_124 ks207, r_al0 dX10_letterRead_127, r_getf dX10_letterRead_128 F10_13, r_iconst dX10_letterRead_131 ki3, r_iald dX10_letterRead_132, r_iadd dX10_letterRead_133, r_il5 dX10_letterRead_134, r_iast dX10_letterRead_136, r_al0 dX10_letterRead_137, r_getf dX10_letterRead_138 F10_13, r_iconst dX10_letterRead_141 ki3, r_dup2_ir dX10_letterRead_142, r_dup2_l dX10_letterRead_142, r_iald dX10_letterRead_143, r_iconst dX10_letterRead_144 ki1, r_iadd dX10_letterRead_145, r_iast dX10_letterRead_146, r_vret dX10_letterRead_147 (Nat.zero_le _) (Nat.zero_le _), List.cons_append, List.nil_append, Nat.reduceAdd, Option.toList, aI_ok, cat_f, cat_i, cat_n, cat_r, eq_self, g10_0, g10_9, pk_un, pk_us, rd_up_eq, rd_up_ne, sI_ok, true_and, up_eq, up_ne, up_up, z0, hM4.r, rd_own hM4.r, hM4.r0, rd_own hM4.r0, w9, vs3, ck3, true_and, p1, hn, c3, c3', s207, nI_1, nI_clamp (show 55 + 2 * nl < 2 ^ 31 by omega), nI_clamp (show 55 + 2 * nl + 1 < 2 ^ 31 by omega), nI_clamp (show 207 + nl < 2 ^ 31 by omega)]
            refine ⟨fun _ => ⟨vp_in_nI (by omega) (by omega), vp_in_nI (by omega) (by omega), vp_in_nI (by omega) (by omega), ?_⟩, fun z => absurd rfl z⟩
            exact hQ _ u4 (va_up A 0 (leS (A 0) nl (A 5 st0 - 96) v1 v2)) (hM4.w0 (leS (A 0) nl (A 5 st0 - 96) v1 v2)) (ks'.kl (A := A)) (by rw [ho]; exact ⟨w9, w10.trans (g10.trans (by rw [pk_un (by decide), pk_un (by decide)])), w8, rfl, ks'.r18, rfl⟩) (s4.up (by omega))
    · rw [nI_leI (by omega) (by omega)] at hgt
      exact bad _ _ (by omega)
  · have hz := hz.resolve_right (fun y => hd ((by_is hB).mpr ⟨y.2.1, y.2.2.1⟩))
    simp only [r_if_eqB (tgt := 22) dX10_letterRead_14 rfl, r_il3 dX10_letterRead_17, r_iconst dX10_letterRead_18 ki1, r_ic_leB (tgt := 34) dX10_letterRead_19 rfl, List.cons_append, List.nil_append, Nat.reduceAdd, Option.toList, z0]
    refine ⟨fun _ => ?_, fun z => absurd trivial z⟩
    try simp (disch := omega) only [E2, nI_1, nI_add, nI_leI, nI_ltI, nI_eq, nI_clamp]
    exact bad _ _ (by omega)
end MF
