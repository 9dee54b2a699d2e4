def woS (S S' : Nat → Int32) (T : Nat → Int32) (nl nw st z : Nat) : Prop := ∀ j, S' j = if j = 5 then nI (nw + 1) else if j = 91 + 7 * nw then nI z else if 91 + 7 * nw + 1 ≤ j ∧ j < 91 + 7 * nw + 1 + z then lnm S nl (T (st + (j - (91 + 7 * nw + 1)))) else S j
def BWord (T : Nat → Int32) (e q : Nat) (S : Nat → Int32) (nl nw : Nat) (o : OU) : Prop := ∃ st z, wdO T e q st z ∧ ((¬ (1 ≤ z ∧ z ≤ 6) ∧ o = oNo 1 st none) ∨ (1 ≤ z ∧ z ≤ 6 ∧ ((¬ (∀ x, x < z → ¬ lnm S nl (T (st + x)) = -1) ∧ o = oNo 3 st none) ∨ ((∀ x, x < z → ¬ lnm S nl (T (st + x)) = -1) ∧ ∃ S', woS S S' T nl nw st z ∧ o = oOk (st + z) S'))))
theorem lnm_ext {S S' : Nat → Int32} {nl : Nat} {c : Int32} (h : ∀ k, k < nl → S' (55 + 2 * k) = S (55 + 2 * k)) : lnm S' nl c = lnm S nl c := fst1_ext (fun k hk => by rw [h k hk])
section MH
variable {X : HM} {EV : Nat → Value} {d : Nat} {hm : HM} {hs : Nat} {Q : QT} {m nl nw : Nat} {u : Nat → Int32} {A : Nat → Nat → Int32} {R : Nat → Int64} {e q bg : Nat} {o : OU}
theorem m_wordRead (hM : MO hm m u A R) (hB : BY (A 5) e) (e7 : u 7 = nI e) (he : e ≤ 900) (e8 : u 8 = nI q) (hq : q ≤ e) (h9 : u 9 = 0) (hn : A 0 3 = nI nl) (hn10 : nl ≤ 10) (hw : A 0 5 = nI nw) (hw12 : nw < 12) (hb : BWord (A 5) e q (A 0) nl nw o)
    (hQ : ∀ hm' u' A', MO hm' m u' A' R → KL u u' A A' → RO o u u' A A' → sm m (m + 16) hm hm' → Q none hm' hs) : CC X EV (d + 4) 178 [.ref m, .int (nI (91 + 7 * nw))] hm hs Q := by
  obtain ⟨st, z, ⟨hst, hz⟩, hb⟩ := hb
  have hse := hst.2.1
  refine c_of (ls2 := [.ref m, .int (nI (91 + 7 * nw)), .null, .null, .null]) Y178 (Nat.le_of_ble_eq_true rfl) rfl I178 ?_
  simp only [r_al0 dX10_wordRead_0, List.cons_append, List.nil_append, Nat.reduceAdd, Option.toList, z0]
  refine r_iv1 dX10_wordRead_1 M10_95 Y160 O160 (Nat.le_of_ble_eq_true rfl) (rcv_own hM.r) (Nat.le_refl _) (Nat.le_refl _) ?_
  refine m_peek hM e7 he e8 hq (fun st0 hm1 hst0 hM1 s1 => ?_)
  have es := nxq_un hst0 hst
  subst es
  have r7 : (upd u 8 (nI st0)) 7 = nI e := (pk_un (by decide)).trans e7
  have r9 : (upd u 8 (nI st0)) 9 = 0 := (pk_un (by decide)).trans h9
  have ks1 : KS u (upd u 8 (nI st0)) := fun k h1 _ _ _ => pk_un h1
  have w108 : ∀ hm' u' A' a b c, MO hm' m u' A' R → ¬ u' 9 = 0 → Q none hm' hs → E1 X EV (d + 3) 10 0 0 none false cX10_wordRead Q 108 [.ref m, .int (nI (91 + 7 * nw)), a, b, c] [] 0 0 hm' hs := by
    intro hm' u' A' a b c hM' h9' hq
    simp (disch := first | omega | (simp only [List.length_cons, List.length_nil]; omega)) only [r_al0 dX10_wordRead_108, r_getf dX10_wordRead_109 F10_76, r_if_eq (tgt := 116) dX10_wordRead_112 rfl, r_vret dX10_wordRead_115 (Nat.zero_le _) (Nat.zero_le _), r_al0 dX10_wordRead_116, r_getf dX10_wordRead_117 F10_13, r_il1 dX10_wordRead_120, r_il3 dX10_wordRead_121, r_iast dX10_wordRead_122, r_al0 dX10_wordRead_123, r_getf dX10_wordRead_124 F10_13, r_iconst dX10_wordRead_127 ki5, r_dup2_ir dX10_wordRead_128, r_dup2_l dX10_wordRead_128, r_iald dX10_wordRead_129, r_iconst dX10_wordRead_130 ki1, r_iadd dX10_wordRead_131, r_iast dX10_wordRead_132, r_al0 dX10_wordRead_133, r_dup_i dX10_wordRead_134, r_dup_r dX10_wordRead_134, r_getf dX10_wordRead_135 F10_70, r_il3 dX10_wordRead_138, r_iadd dX10_wordRead_139, r_putf dX10_wordRead_140 F10_70, r_vret dX10_wordRead_143 (Nat.zero_le _) (Nat.zero_le _), List.cons_append, List.nil_append, Nat.reduceAdd, Option.toList, aI_ok, fit_i, ft10_8, g10_0, g10_8, g10_9, p10_8, pk_un, pk_us, rd_up_eq, rd_up_ne, sI_ok, true_and, up_eq, up_ne, up_up, z0, hM'.r, rd_own hM'.r, hM'.r, rd_own hM'.r]
    exact ⟨fun z => absurd z h9', fun _ => hq⟩
  simp only [r_is2 dX10_wordRead_4, r_al0 dX10_wordRead_5, List.cons_append, List.nil_append, Nat.reduceAdd, Option.toList, cat_f, cat_i, cat_n, cat_r, eq_self, true_and, z0]
  refine r_iv1 dX10_wordRead_6 M10_99 Y164 O164 (Nat.le_of_ble_eq_true rfl) (rcv_own hM1.r) (Nat.le_refl _) (Nat.le_refl _) ?_
  refine m_lettersHere hM1 r7 he pk_us hse (fun y hy => ?_)
  have hye := hy.2.1
  simp only [r_is3 dX10_wordRead_9, r_il2 dX10_wordRead_10, List.cons_append, List.nil_append, Nat.reduceAdd, Option.toList, cat_f, cat_i, cat_n, cat_r, eq_self, true_and, z0]
  refine r_ist1 dX10_wordRead_11 M10_91 Y162 (Nat.le_of_ble_eq_true rfl) (Nat.le_refl _) (Nat.le_refl _) ?_
  have bad : ∀ a, ¬ (1 ≤ z ∧ z ≤ 6) → E1 X EV (d + 3) 10 0 0 none false cX10_wordRead Q 23 [.ref m, .int (nI (91 + 7 * nw)), a, .int (nI y), .null] [] 0 0 hm1 hs := by
    intro a hz1
    have ho := (hb.resolve_right (fun y => hz1 ⟨y.1, y.2.1⟩)).2
    simp only [r_al0 dX10_wordRead_23, r_iconst dX10_wordRead_24 ki1, r_al0 dX10_wordRead_25, r_getf dX10_wordRead_26 F10_70, List.cons_append, List.nil_append, Nat.reduceAdd, Option.toList, g10_8, z0, hM1.r, rd_own hM1.r, hM1.r, rd_own hM1.r, pk_us]
    refine r_iv3 dX10_wordRead_29 M10_116 Y161 O161 (Nat.le_of_ble_eq_true rfl) (rcv_own hM1.r) (Nat.le_refl _) (Nat.le_refl _) ?_
    refine m_fails hM1 (fun z => absurd r9 z) (fun _ hm2 hM2 s2 => ?_)
    have n9 : (upd (upd (upd u 8 (nI st0)) 9 1) 10 (nI st0)) 9 = 1 := by rw [pk_un (by decide), pk_us]
    have fin := w108 hm2 _ A a (.int (nI y)) (.int 0) hM2 (by rw [n9]; decide) (hQ hm2 _ A hM2 (ks1.kl (A := A)) (by rw [ho]; exact ⟨rfl, rfl, ks1.r18, rfl⟩) (s1.trans s2))
    simp only [r_iconst dX10_wordRead_32 ki0, r_is4 dX10_wordRead_33, r_il4 dX10_wordRead_35, r_il3 dX10_wordRead_37, r_ic_geB (tgt := 108) dX10_wordRead_38 rfl, r_al0 dX10_wordRead_41, r_getf dX10_wordRead_42 F10_76, r_if_neB (tgt := 108) dX10_wordRead_45 rfl, r_al0 dX10_wordRead_48, r_getf dX10_wordRead_49 F10_13, r_il1 dX10_wordRead_52, r_iconst dX10_wordRead_53 ki1, r_iadd dX10_wordRead_54, r_il4 dX10_wordRead_55, r_iadd dX10_wordRead_57, r_al0 dX10_wordRead_58, r_al0 dX10_wordRead_59, r_getf dX10_wordRead_60 F10_23, r_al0 dX10_wordRead_63, r_getf dX10_wordRead_64 F10_70, r_il4 dX10_wordRead_67, r_iadd dX10_wordRead_69, r_bald dX10_wordRead_70, r_bipush dX10_wordRead_71 kb96, r_isub dX10_wordRead_73, List.cons_append, List.nil_append, Nat.reduceAdd, Option.toList, aB_ok, cat_f, cat_i, cat_n, cat_r, eq_self, g10_0, g10_5, g10_8, g10_9, true_and, z0, hM2.r, rd_own hM2.r, hM2.r, rd_own hM2.r, n9]
    try simp (disch := omega) only [E2, nI_1, nI_add, nI_leI, nI_ltI, nI_eq, nI_clamp]
    exact ⟨fun _ => fin, fun _ => ⟨fun _ => fin, fun z => absurd (by decide) z⟩⟩
  refine m_isLetter (fun hd => ?_) (fun hd => ?_)
  · obtain ⟨hl, hsm⟩ := (by_is hB).mp hd
    have hz := hz.resolve_left (fun y => y.2 ⟨hl, hsm⟩)
    have ey : y = z := by have := nxq_un hy hz.2.2.2; omega
    subst ey
    simp only [r_if_eqB (tgt := 23) dX10_wordRead_14 rfl, r_il3 dX10_wordRead_17, r_bipush dX10_wordRead_18 kb6, r_ic_leB (tgt := 32) dX10_wordRead_20 rfl, List.cons_append, List.nil_append, Nat.reduceAdd, Option.toList, z0, show (6 : Int32) = nI 6 from rfl]
    refine ⟨fun z => absurd z (by decide), fun _ => ⟨fun hle => ?_, fun hgt => ?_⟩⟩
    · rw [nI_leI (by omega) (by omega)] at hle
      have hb := (hb.resolve_left (fun y => y.1 ⟨hz.1, hle⟩)).2.2
      try simp (disch := omega) only [E2, nI_1, nI_add, nI_leI, nI_ltI, nI_eq, nI_clamp]
      have eV : ∀ f, (va_up A 0 f) 0 = f := fun f => rfl
      have e5 : ∀ f, (va_up A 0 f) 5 = A 5 := fun f => rfl
      have p1 : nI (91 + 7 * nw) + 1 = nI (91 + 7 * nw + 1) := nI_add _ 1
      suffices H : ∀ k, k ≤ y → ∀ hm' S', MO hm' m (upd u 8 (nI st0)) (va_up A 0 S') R → (∀ x, x < k → ¬ lnm (A 0) nl (A 5 (st0 + x)) = -1) → (∀ j, S' j = if 91 + 7 * nw + 1 ≤ j ∧ j < 91 + 7 * nw + 1 + k then lnm (A 0) nl (A 5 (st0 + (j - (91 + 7 * nw + 1)))) else A 0 j) → sm m (m + 16) hm hm' → ∀ a : Int32, E1 X EV (d + 3) 10 0 0 none false cX10_wordRead Q 35 [.ref m, .int (nI (91 + 7 * nw)), .int a, .int (nI y), .int (nI k)] [] 0 0 hm' hs by
        have H := H 0 (by omega) hm1 (A 0) (by rw [va_self]; exact hM1) (fun x hx => absurd hx (by omega)) (fun j => by rw [if_neg (by omega)]) s1
        simp only [r_iconst dX10_wordRead_32 ki0, r_is4 dX10_wordRead_33, List.cons_append, List.nil_append, Nat.reduceAdd, Option.toList, cat_f, cat_i, cat_n, cat_r, eq_self, true_and, z0]
        exact H _
      refine up_loop y _ ?_ ?_
      · intro hm' S' hM' hall hS s' a
        have ho := (hb.resolve_left (fun z => z.1 hall)).2
        obtain ⟨S2, hS2, ho⟩ := ho
        have q5 : S' 5 = nI nw := by rw [hS, if_neg (by omega)]; exact hw
        have q5' : ∀ v, upd S' (91 + 7 * nw) v 5 = nI nw := fun v => by rw [pk_un (by omega)]; exact q5
        have eS : S2 = upd (upd S' (91 + 7 * nw) (nI y)) 5 (nI (nw + 1)) := by
          funext j
          rw [hS2 j]
          by_cases j5 : j = 5
          · rw [if_pos j5, j5, pk_us]
          · rw [if_neg j5, pk_un j5]
            by_cases j1 : j = 91 + 7 * nw
            · rw [if_pos j1, j1, pk_us]
            · rw [if_neg j1, pk_un j1, hS j]
        simp only [r_il4 dX10_wordRead_35, r_il3 dX10_wordRead_37, r_ic_geB (tgt := 108) dX10_wordRead_38 rfl, r_al0 dX10_wordRead_41, r_getf dX10_wordRead_42 F10_76, r_if_neB (tgt := 108) dX10_wordRead_45 rfl, r_al0 dX10_wordRead_48, r_getf dX10_wordRead_49 F10_13, r_il1 dX10_wordRead_52, r_iconst dX10_wordRead_53 ki1, r_iadd dX10_wordRead_54, r_il4 dX10_wordRead_55, r_iadd dX10_wordRead_57, r_al0 dX10_wordRead_58, r_al0 dX10_wordRead_59, r_getf dX10_wordRead_60 F10_23, r_al0 dX10_wordRead_63, r_getf dX10_wordRead_64 F10_70, r_il4 dX10_wordRead_67, r_iadd dX10_wordRead_69, r_bald dX10_wordRead_70, r_bipush dX10_wordRead_71 kb96, r_isub dX10_wordRead_73, List.cons_append, List.nil_append, Nat.reduceAdd, Option.toList, aB_ok, g10_0, g10_5, g10_8, g10_9, z0]
        try simp (disch := omega) only [E2, nI_1, nI_add, nI_leI, nI_ltI, nI_eq, nI_clamp]
        refine ⟨fun _ => ?_, fun z => absurd (Nat.le_refl _) z⟩
        have hM2 := (hM'.w0 S2).o (upd (upd u 8 (nI st0)) 8 (nI (st0 + y)))
        rw [va_va] at hM2
        simp (disch := first | omega | (simp only [List.length_cons, List.length_nil]; omega)) only [r_al0 dX10_wordRead_108, r_getf dX10_wordRead_109 F10_76, r_if_eq (tgt := 116) dX10_wordRead_112 rfl, r_vret dX10_wordRead_115 (Nat.zero_le _) (Nat.zero_le _), r_al0 dX10_wordRead_116, r_getf dX10_wordRead_117 F10_13, r_il1 dX10_wordRead_120, r_il3 dX10_wordRead_121, r_iast dX10_wordRead_122, r_al0 dX10_wordRead_123, r_getf dX10_wordRead_124 F10_13, r_iconst dX10_wordRead_127 ki5, r_dup2_ir dX10_wordRead_128, r_dup2_l dX10_wordRead_128, r_iald dX10_wordRead_129, r_iconst dX10_wordRead_130 ki1, r_iadd dX10_wordRead_131, r_iast dX10_wordRead_132, r_al0 dX10_wordRead_133, r_dup_i dX10_wordRead_134, r_dup_r dX10_wordRead_134, r_getf dX10_wordRead_135 F10_70, r_il3 dX10_wordRead_138, r_iadd dX10_wordRead_139, r_putf dX10_wordRead_140 F10_70, r_vret dX10_wordRead_143 (Nat.zero_le _) (Nat.zero_le _), List.cons_append, List.nil_append, Nat.reduceAdd, Option.toList, aI_ok, fit_i, ft10_8, g10_0, g10_8, g10_9, p10_8, pk_un, pk_us, rd_up_eq, rd_up_ne, sI_ok, true_and, up_eq, up_ne, up_up, z0, hM'.r, rd_own hM'.r, hM'.r0, rd_own hM'.r0, eV, r9, vs5, ck5, true_and, q5, q5', nI_1, nI_add, pk_us, nI_clamp (show 91 + 7 * nw < 2 ^ 31 by omega)]
        refine ⟨fun _ => ⟨vp_in_nI (by omega) (by omega), ?_⟩, fun z => absurd h9 z⟩
        rw [← eS]
        refine hQ _ (upd (upd u 8 (nI st0)) 8 (nI (st0 + y))) (va_up A 0 S2) hM2 (show KL u (upd (upd u 8 (nI st0)) 8 (nI (st0 + y))) A (va_up A 0 S2) from ks1.kl (A := A)) ?_ ((s'.up (by omega)).up (by omega))
        rw [ho]
        exact ⟨h9, rfl, rfl, rfl, rfl, rfl⟩
      · intro k hk ih hm' S' hM' hall hS s' a
        have hin5 := vp_in_nI (show st0 + k < 900 by omega) (by omega)
        have hin0 := vp_in_nI (show 91 + 7 * nw + 1 + k < 217 by omega) (by omega)
        simp only [r_il4 dX10_wordRead_35, r_il3 dX10_wordRead_37, r_ic_geB (tgt := 108) dX10_wordRead_38 rfl, r_al0 dX10_wordRead_41, r_getf dX10_wordRead_42 F10_76, r_if_neB (tgt := 108) dX10_wordRead_45 rfl, r_al0 dX10_wordRead_48, r_getf dX10_wordRead_49 F10_13, r_il1 dX10_wordRead_52, r_iconst dX10_wordRead_53 ki1, r_iadd dX10_wordRead_54, r_il4 dX10_wordRead_55, r_iadd dX10_wordRead_57, r_al0 dX10_wordRead_58, r_al0 dX10_wordRead_59, r_getf dX10_wordRead_60 F10_23, r_al0 dX10_wordRead_63, r_getf dX10_wordRead_64 F10_70, r_il4 dX10_wordRead_67, r_iadd dX10_wordRead_69, r_bald dX10_wordRead_70, r_bipush dX10_wordRead_71 kb96, r_isub dX10_wordRead_73, List.cons_append, List.nil_append, Nat.reduceAdd, Option.toList, aB_ok, g10_0, g10_5, g10_8, g10_9, z0, hM'.r, rd_own hM'.r, hM'.r5, rd_own hM'.r5, e5, r9, p1, nI_add, pk_us, nI_clamp (show st0 + k < 2 ^ 31 by omega)]
        try simp (disch := omega) only [E2, nI_1, nI_add, nI_leI, nI_ltI, nI_eq, nI_clamp]
        refine ⟨fun z => absurd z (by omega), fun _ => ⟨fun z => absurd trivial z, fun _ => ⟨hin5, ?_⟩⟩⟩
        have hn' : (va_up A 0 S') 0 3 = nI nl := by rw [eV, hS, if_neg (by omega)]; exact hn
        have eln : lnm ((va_up A 0 S') 0) nl (A 5 (st0 + k)) = lnm (A 0) nl (A 5 (st0 + k)) := lnm_ext (fun x hx => by rw [eV, hS, if_neg (by omega)])
        have p2 : nI (91 + 7 * nw + 1) + nI k = nI (91 + 7 * nw + 1 + k) := nI_add _ _
        refine r_iv2 dX10_wordRead_74 M10_184 Y176 O176 (Nat.le_of_ble_eq_true rfl) (rcv_own hM'.r) (Nat.le_refl _) (Nat.le_refl _) ?_
        refine m_letterNamed hM' (nl := nl) hn' hn10 ?_
        rw [eln]
        have hM2 := hM'.w0 (upd S' (91 + 7 * nw + 1 + k) (lnm (A 0) nl (A 5 (st0 + k))))
        rw [va_va] at hM2
        have hS2 : ∀ j, upd S' (91 + 7 * nw + 1 + k) (lnm (A 0) nl (A 5 (st0 + k))) j = if 91 + 7 * nw + 1 ≤ j ∧ j < 91 + 7 * nw + 1 + (k + 1) then lnm (A 0) nl (A 5 (st0 + (j - (91 + 7 * nw + 1)))) else A 0 j := fun j => by
          by_cases e : j = 91 + 7 * nw + 1 + k
          · rw [e, pk_us, if_pos (by omega), show 91 + 7 * nw + 1 + k - (91 + 7 * nw + 1) = k by omega]
          · rw [pk_un e, hS j]
            by_cases h5 : 91 + 7 * nw + 1 ≤ j ∧ j < 91 + 7 * nw + 1 + k
            · rw [if_pos h5, if_pos (by omega)]
            · rw [if_neg h5, if_neg (by omega)]
        have s2 := s'.up (a := m + 1) (c := ia 217 (upd S' (91 + 7 * nw + 1 + k) (lnm (A 0) nl (A 5 (st0 + k))))) (by omega)
        by_cases hno : lnm (A 0) nl (A 5 (st0 + k)) = -1
        · have hnot : ¬ (∀ x, x < y → ¬ lnm (A 0) nl (A 5 (st0 + x)) = -1) := fun z => z k hk hno
          have ho := (hb.resolve_right (fun z => hnot z.1)).2
          simp (disch := first | omega | (simp only [List.length_cons, List.length_nil]; omega)) only [r_iast dX10_wordRead_77, r_al0 dX10_wordRead_78, r_getf dX10_wordRead_79 F10_13, r_il1 dX10_wordRead_82, r_iconst dX10_wordRead_83 ki1, r_iadd dX10_wordRead_84, r_il4 dX10_wordRead_85, r_iadd dX10_wordRead_87, r_iald dX10_wordRead_88, r_iconst dX10_wordRead_89 kim1, r_ic_neB (tgt := 102) dX10_wordRead_90 rfl, r_al0 dX10_wordRead_93, r_iconst dX10_wordRead_94 ki3, r_al0 dX10_wordRead_95, r_getf dX10_wordRead_96 F10_70, List.cons_append, List.nil_append, Nat.reduceAdd, Option.toList, aI_ok, g10_0, g10_8, pk_un, pk_us, rd_up_eq, rd_up_ne, sI_ok, up_eq, up_ne, up_up, z0, hM'.r, rd_own hM'.r, hM'.r0, rd_own hM'.r0, eV, p1, p2, pk_us, nI_clamp (show 91 + 7 * nw + 1 + k < 2 ^ 31 by omega), hno]
          refine ⟨hin0, hin0, fun z => absurd trivial z, fun _ => ?_⟩
          rw [hno] at hM2 s2
          refine r_iv3 dX10_wordRead_99 M10_116 Y161 O161 (Nat.le_of_ble_eq_true rfl) (rcv_own hM2.r) (Nat.le_refl _) (Nat.le_refl _) ?_
          refine m_fails hM2 (fun z => absurd r9 z) (fun _ hm3 hM3 s3 => ?_)
          have n9 : (upd (upd (upd u 8 (nI st0)) 9 3) 10 (nI st0)) 9 = 3 := by rw [pk_un (by decide), pk_us]
          have fin := w108 hm3 _ _ (.int a) (.int (nI y)) (.int (nI (k + 1))) hM3 (by rw [n9]; decide) (hQ hm3 _ _ hM3 (ks1.kl (A := A)) (by rw [ho]; exact ⟨rfl, rfl, ks1.r18, rfl⟩) (s2.trans s3))
          simp only [r_ii4 dX10_wordRead_102 kn1, r_gotoB (tgt := 35) dX10_wordRead_105 rfl, List.cons_append, List.nil_append, Nat.reduceAdd, Option.toList, cat_f, cat_i, cat_n, cat_r, eq_self, true_and, z0]
          try simp (disch := omega) only [E2, nI_1, nI_add, nI_leI, nI_ltI, nI_eq, nI_clamp]
          simp only [r_il4 dX10_wordRead_35, r_il3 dX10_wordRead_37, r_ic_geB (tgt := 108) dX10_wordRead_38 rfl, r_al0 dX10_wordRead_41, r_getf dX10_wordRead_42 F10_76, r_if_neB (tgt := 108) dX10_wordRead_45 rfl, r_al0 dX10_wordRead_48, r_getf dX10_wordRead_49 F10_13, r_il1 dX10_wordRead_52, r_iconst dX10_wordRead_53 ki1, r_iadd dX10_wordRead_54, r_il4 dX10_wordRead_55, r_iadd dX10_wordRead_57, r_al0 dX10_wordRead_58, r_al0 dX10_wordRead_59, r_getf dX10_wordRead_60 F10_23, r_al0 dX10_wordRead_63, r_getf dX10_wordRead_64 F10_70, r_il4 dX10_wordRead_67, r_iadd dX10_wordRead_69, r_bald dX10_wordRead_70, r_bipush dX10_wordRead_71 kb96, r_isub dX10_wordRead_73, List.cons_append, List.nil_append, Nat.reduceAdd, Option.toList, aB_ok, g10_0, g10_5, g10_8, g10_9, z0, hM3.r, rd_own hM3.r, hM3.r, rd_own hM3.r, n9]
          try simp (disch := omega) only [E2, nI_1, nI_add, nI_leI, nI_ltI, nI_eq, nI_clamp]
          exact ⟨fun _ => fin, fun _ => ⟨fun _ => fin, fun z => absurd (by decide) z⟩⟩
        · have ih := ih _ _ hM2 (fun x hx => by
            rcases Nat.lt_or_ge x k with h' | h'
            · exact hall x h'
            · rw [show x = k by omega]; exact hno) hS2 s2 a
          simp (disch := first | omega | (simp only [List.length_cons, List.length_nil]; omega)) only [r_iast dX10_wordRead_77, r_al0 dX10_wordRead_78, r_getf dX10_wordRead_79 F10_13, r_il1 dX10_wordRead_82, r_iconst dX10_wordRead_83 ki1, r_iadd dX10_wordRead_84, r_il4 dX10_wordRead_85, r_iadd dX10_wordRead_87, r_iald dX10_wordRead_88, r_iconst dX10_wordRead_89 kim1, r_ic_ne (tgt := 102) dX10_wordRead_90 rfl, r_al0 dX10_wordRead_93, r_iconst dX10_wordRead_94 ki3, r_al0 dX10_wordRead_95, r_getf dX10_wordRead_96 F10_70, r_ii4 dX10_wordRead_102 kn1, r_gotoB (tgt := 35) dX10_wordRead_105 rfl, List.cons_append, List.nil_append, Nat.reduceAdd, Option.toList, aI_ok, cat_f, cat_i, cat_n, cat_r, eq_self, g10_0, g10_8, pk_un, pk_us, rd_up_eq, rd_up_ne, sI_ok, true_and, up_eq, up_ne, up_up, z0, hM'.r, rd_own hM'.r, hM'.r0, rd_own hM'.r0, eV, p1, p2, pk_us, nI_clamp (show 91 + 7 * nw + 1 + k < 2 ^ 31 by omega)]
          refine ⟨hin0, hin0, fun _ => ?_, fun z => absurd hno z⟩
          try simp (disch := omega) only [E2, nI_1, nI_add, nI_leI, nI_ltI, nI_eq, nI_clamp]
          exact ih
    · rw [nI_leI (by omega) (by omega)] at hgt
      exact bad _ (by omega)
  · have hz := hz.resolve_right (fun y => hd ((by_is hB).mpr ⟨y.2.1, y.2.2.1⟩))
    simp only [r_if_eqB (tgt := 23) dX10_wordRead_14 rfl, r_il3 dX10_wordRead_17, r_bipush dX10_wordRead_18 kb6, r_ic_leB (tgt := 32) dX10_wordRead_20 rfl, List.cons_append, List.nil_append, Nat.reduceAdd, Option.toList, z0]
    refine ⟨fun _ => ?_, fun z => absurd trivial z⟩
    try simp (disch := omega) only [E2, nI_1, nI_add, nI_leI, nI_ltI, nI_eq, nI_clamp]
    exact bad _ (by omega)
end MH
