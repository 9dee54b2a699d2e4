def BPage (T : Nat → Int32) (e q : Nat) (S : Nat → Int32) (o : OU) : Prop := ∃ st1 q1 v1 f1, nmO T e q 3 24 st1 q1 v1 f1 ∧ ((f1 ≠ 0 ∧ o = oNo f1 st1 none) ∨ (f1 = 0 ∧ ∃ st2 q2 v2 f2, nmO T e q1 3 12 st2 q2 v2 f2 ∧ ((f2 ≠ 0 ∧ o = oNo f2 st2 none) ∨ (f2 = 0 ∧ o = oOk q2 (upd (upd S 0 v1) 1 v2)))))
def plS (S : Nat → Int32) (np : Nat) (v1 v2 : Int32) : Nat → Int32 := upd (upd (upd S (75 + 2 * np) v1) (75 + 2 * np + 1) v2) 4 (nI (np + 1))
def BPlace (T : Nat → Int32) (e q : Nat) (S : Nat → Int32) (np : Nat) (o : OU) : Prop := ∃ st1 q1 v1 f1, nmO T e q 0 (S 0 - 3) st1 q1 v1 f1 ∧ ((f1 ≠ 0 ∧ o = oNo f1 st1 none) ∨ (f1 = 0 ∧ ∃ st2 q2 v2 f2, nmO T e q1 0 (S 1 - 3) st2 q2 v2 f2 ∧ ((f2 ≠ 0 ∧ o = oNo f2 st2 none) ∨ (f2 = 0 ∧ o = oOk q2 (plS S np v1 v2)))))
/-- what stands behind the first word of a line -/
def LB (T : Nat → Int32) (e bg q : Nat) (S : Nat → Int32) (k : Nat) (o : OU) : Prop :=
  (k = 0 ∧ BPage T e q S o) ∨ (k = 1 ∧ ∃ n w h, S 2 = nI n ∧ n < 12 ∧ S 0 = nI w ∧ 3 ≤ w ∧ w ≤ 24 ∧ S 1 = nI h ∧ 3 ≤ h ∧ h ≤ 12 ∧ BStroke T e q S n w h o) ∨
  (k = 2 ∧ ∃ n, S 2 = nI n ∧ n ≤ 12 ∧ BHand T e bg q S n o) ∨ (k = 3 ∧ ∃ n L, S 2 = nI n ∧ n ≤ 12 ∧ LN S n L ∧ BOver T e bg q S L n o) ∨
  (k = 4 ∧ ∃ nl, S 3 = nI nl ∧ nl < 10 ∧ BLetter T e q S nl o) ∨ (k = 5 ∧ ∃ np, S 4 = nI np ∧ np < 8 ∧ BPlace T e q S np o) ∨
  (k = 6 ∧ ∃ nl nw, S 3 = nI nl ∧ nl ≤ 10 ∧ S 5 = nI nw ∧ nw < 12 ∧ BWord T e q S nl nw o) ∨
  (k = 7 ∧ ∃ np nr, S 4 = nI np ∧ np ≤ 8 ∧ S 6 = nI nr ∧ nr < 4 ∧ (∀ r, r < nr → ∃ f l, S (175 + 2 * r) = nI f ∧ S (175 + 2 * r + 1) = nI l ∧ f + l ≤ np ∧ 1 ≤ l ∧ l ≤ 6) ∧ BRun T e q S np nr o)
section MK
variable {X : HM} {EV : Nat → Value} {d : Nat} {hm : HM} {hs : Nat} {Q : QT} {m n : Nat} {u : Nat → Int32} {A : Nat → Nat → Int32} {R : Nat → Int64} {e q bg k : Nat} {o : OU}
theorem m_behind (hM : MO hm m u A R) (hB : BY (A 5) e) (e7 : u 7 = nI e) (he : e ≤ 900) (e8 : u 8 = nI q) (hq : q ≤ e) (h9 : u 9 = 0) (h : LB (A 5) e bg q (A 0) k o)
    (hQ : ∀ hm' u' A', MO hm' m u' A' R → KL u u' A A' → RO o u u' A A' → sm m (m + 16) hm hm' → Q none hm' hs) : CC X EV (d + 17) 169 [.ref m, .int (nI k), .int (nI bg)] hm hs Q := by
  have eV : ∀ f, (va_up A 0 f) 0 = f := fun f => rfl
  refine c_of (ls2 := [.ref m, .int (nI k), .int (nI bg)]) Y169 (Nat.le_of_ble_eq_true rfl) rfl I169 ?_
  simp only [r_il1 dX10_behind_0, List.cons_append, List.nil_append, Nat.reduceAdd, Option.toList, z0]
  rcases h with ⟨rfl, h⟩ | ⟨rfl, h⟩ | ⟨rfl, h⟩ | ⟨rfl, h⟩ | ⟨rfl, h⟩ | ⟨rfl, h⟩ | ⟨rfl, h⟩ | ⟨rfl, h⟩
  · rw [r_tsIn (tgt := 44) (off := 43) dX10_behind_1 (by decide) (by decide) rfl rfl]
    obtain ⟨st1, q1, v1, f1, hn1, h⟩ := h
    have l1 := nm_f hn1
    simp only [r_al0 dX10_behind_44, r_getf dX10_behind_45 F10_13, r_iconst dX10_behind_48 ki0, r_al0 dX10_behind_49, r_iconst dX10_behind_50 ki3, r_bipush dX10_behind_51 kb24, List.cons_append, List.nil_append, Nat.reduceAdd, Option.toList, g10_0, z0, hM.r, rd_own hM.r, hM.r, rd_own hM.r]
    refine r_iv3 dX10_behind_53 M10_135 Y166 O166 (Nat.le_of_ble_eq_true rfl) (rcv_own hM.r) (Nat.le_refl _) (Nat.le_refl _) ?_
    refine m_numeral hM hB e7 he e8 hq h9 (by decide) hn1 (fun hm1 u1 hM1 ks1 g9 g0 gf s1 => ?_)
    have r7 : u1 7 = nI e := (ks1 7 (by decide) (by decide) (by decide) (by decide)).trans e7
    simp (disch := first | omega | (simp only [List.length_cons, List.length_nil]; omega)) only [r_iast dX10_behind_56, r_al0 dX10_behind_57, r_getf dX10_behind_58 F10_13, r_iconst dX10_behind_61 ki1, r_al0 dX10_behind_62, r_iconst dX10_behind_63 ki3, r_bipush dX10_behind_64 kb12, List.cons_append, List.nil_append, Nat.reduceAdd, Option.toList, g10_0, pk_un, pk_us, rd_up_eq, rd_up_ne, sI_ok, up_eq, up_ne, up_up, z0, hM1.r, rd_own hM1.r, hM1.r0, rd_own hM1.r0, vs0, ck0, true_and]
    have s1o := s1
    have hM1o := hM1
    have s1 := s1.up (a := m + 1) (c := ia 217 (upd (A 0) 0 (if f1 = 0 then v1 else 3))) (by omega)
    have hM1 := hM1.w0 (upd (A 0) 0 (if f1 = 0 then v1 else 3))
    rcases h with ⟨hf, ho⟩ | ⟨hf, st2, q2, v2, f2, hn2, h⟩
    · skip
      refine r_iv3 dX10_behind_66 M10_135 Y166 O166 (Nat.le_of_ble_eq_true rfl) (rcv_own hM1.r) (Nat.le_refl _) (Nat.le_refl _) ?_
      refine m_numeralw hM1 (by rw [g9]; exact nI_f l1 hf) ?_
      simp (disch := first | omega | (simp only [List.length_cons, List.length_nil]; omega)) only [r_iast dX10_behind_69, r_vret dX10_behind_70 (Nat.zero_le _) (Nat.zero_le _), List.cons_append, List.nil_append, Nat.reduceAdd, Option.toList, pk_un, pk_us, rd_up_eq, rd_up_ne, sI_ok, up_eq, up_ne, up_up, z0, hM1.r, rd_own hM1.r, hM1.r0, rd_own hM1.r0, vs1, ck1, true_and]
      exact hQ _ u1 _ (hM1o.w0 _) (ks1.kl (A := A)) (by rw [ho]; exact ⟨g9, gf hf, ks1.r18, rfl⟩) (s1o.up (by omega))
    · subst hf
      rw [if_pos rfl] at hM1 s1 ⊢
      obtain ⟨g8, g11, g10⟩ := g0 rfl
      have l2 := nm_f hn2
      refine r_iv3 dX10_behind_66 M10_135 Y166 O166 (Nat.le_of_ble_eq_true rfl) (rcv_own hM1.r) (Nat.le_refl _) (Nat.le_refl _) ?_
      refine m_numeral hM1 hB r7 he g8 (nm_q hn1) g9 (by decide) hn2 (fun hm2 u2 hM2 ks2 w9 w0 wf s2 => ?_)
      have ks := ks1.trans ks2
      have s2 := s1.trans s2
      simp (disch := first | omega | (simp only [List.length_cons, List.length_nil]; omega)) only [r_iast dX10_behind_69, r_vret dX10_behind_70 (Nat.zero_le _) (Nat.zero_le _), List.cons_append, List.nil_append, Nat.reduceAdd, Option.toList, pk_un, pk_us, rd_up_eq, rd_up_ne, sI_ok, up_eq, up_ne, up_up, z0, hM2.r, rd_own hM2.r, hM2.r0, rd_own hM2.r0, vs1, ck1, true_and, eV]
      have s3 := s2.up (a := m + 1) (c := ia 217 (upd (upd (A 0) 0 v1) 1 (if f2 = 0 then v2 else 3))) (by omega)
      have hM3 := hM2.w0 (upd (upd (A 0) 0 v1) 1 (if f2 = 0 then v2 else 3))
      rw [va_va] at hM3
      rcases h with ⟨hf, ho⟩ | ⟨hf, ho⟩
      · exact hQ _ u2 _ hM3 (ks.kl (A := A)) (by rw [ho]; exact ⟨w9, wf hf, ks.r18, rfl⟩) s3
      · subst hf
        rw [if_pos rfl] at hM3 s3
        obtain ⟨w8, w11, w10⟩ := w0 rfl
        exact hQ _ u2 _ hM3 (ks.kl (A := A)) (by rw [ho]; exact ⟨w9, w10.trans g10, w8, rfl, ks.r18, rfl⟩) s3
  · obtain ⟨n, w, h, h2, hn, h0, hw3, hw24, h1, hh3, hh12, hb⟩ := h
    rw [r_tsIn (tgt := 71) (off := 70) dX10_behind_1 (by decide) (by decide) rfl rfl]
    have ex : (7 : Int32) + 4 * nI n = nI (7 + 4 * n) := by show nI 7 + nI 4 * nI n = _; rw [pk_mul, nI_add]
    simp only [r_al0 dX10_behind_71, r_bipush dX10_behind_72 kb7, r_iconst dX10_behind_74 ki4, r_al0 dX10_behind_75, r_getf dX10_behind_76 F10_13, r_iconst dX10_behind_79 ki2, r_iald dX10_behind_80, r_imul dX10_behind_81, r_iadd dX10_behind_82, List.cons_append, List.nil_append, Nat.reduceAdd, Option.toList, aI_ok, g10_0, z0, hM.r, rd_own hM.r, hM.r0, rd_own hM.r0, vs2, ck2, h2, ex, true_and]
    refine r_iv2 dX10_behind_83 M10_139 Y173 O173 (Nat.le_of_ble_eq_true rfl) (rcv_own hM.r) (Nat.le_refl _) (Nat.le_refl _) ?_
    refine m_strokeRead hM hB e7 he e8 hq h9 h2 hn h0 hw3 hw24 h1 hh3 hh12 hb (fun hm' u' A' a b c dd => ?_)
    simp only [r_vret dX10_behind_86 (Nat.zero_le _) (Nat.zero_le _), List.cons_append, List.nil_append, Nat.reduceAdd, Option.toList, z0]
    exact hQ hm' u' A' a b c dd
  · obtain ⟨n, h2, hn, hb⟩ := h
    rw [r_tsIn (tgt := 87) (off := 86) dX10_behind_1 (by decide) (by decide) rfl rfl]
    simp only [r_al0 dX10_behind_87, r_il2 dX10_behind_88, List.cons_append, List.nil_append, Nat.reduceAdd, Option.toList, z0]
    refine r_iv2 dX10_behind_89 M10_143 Y174 O174 (Nat.le_of_ble_eq_true rfl) (rcv_own hM.r) (Nat.le_refl _) (Nat.le_refl _) ?_
    refine m_handRead hM hB e7 he e8 hq h9 h2 hn hb (fun hm' u' A' a b c dd => ?_)
    simp only [r_vret dX10_behind_92 (Nat.zero_le _) (Nat.zero_le _), List.cons_append, List.nil_append, Nat.reduceAdd, Option.toList, z0]
    exact hQ hm' u' A' a b c dd
  · obtain ⟨n, L, h2, hn, hL, hb⟩ := h
    rw [r_tsIn (tgt := 93) (off := 92) dX10_behind_1 (by decide) (by decide) rfl rfl]
    simp only [r_al0 dX10_behind_93, r_il2 dX10_behind_94, List.cons_append, List.nil_append, Nat.reduceAdd, Option.toList, z0]
    refine r_iv2 dX10_behind_95 M10_146 Y175 O175 (Nat.le_of_ble_eq_true rfl) (rcv_own hM.r) (Nat.le_refl _) (Nat.le_refl _) ?_
    refine m_overRead hM hB e7 he e8 hq h9 h2 hn hL hb (fun hm' u' A' a b c dd => ?_)
    simp only [r_vret dX10_behind_98 (Nat.zero_le _) (Nat.zero_le _), List.cons_append, List.nil_append, Nat.reduceAdd, Option.toList, z0]
    exact hQ hm' u' A' a b c dd
  · obtain ⟨nl, h3, hn, hb⟩ := h
    rw [r_tsIn (tgt := 99) (off := 98) dX10_behind_1 (by decide) (by decide) rfl rfl]
    have ex : (55 : Int32) + 2 * nI nl = nI (55 + 2 * nl) := by show nI 55 + nI 2 * nI nl = _; rw [pk_mul, nI_add]
    simp only [r_al0 dX10_behind_99, r_bipush dX10_behind_100 kb55, r_iconst dX10_behind_102 ki2, r_al0 dX10_behind_103, r_getf dX10_behind_104 F10_13, r_iconst dX10_behind_107 ki3, r_iald dX10_behind_108, r_imul dX10_behind_109, r_iadd dX10_behind_110, List.cons_append, List.nil_append, Nat.reduceAdd, Option.toList, aI_ok, g10_0, z0, hM.r, rd_own hM.r, hM.r0, rd_own hM.r0, vs3, ck3, h3, ex, true_and]
    refine r_iv2 dX10_behind_111 M10_149 Y177 O177 (Nat.le_of_ble_eq_true rfl) (rcv_own hM.r) (Nat.le_refl _) (Nat.le_refl _) ?_
    refine m_letterRead hM hB e7 he e8 hq h9 h3 hn hb (fun hm' u' A' a b c dd => ?_)
    simp only [r_vret dX10_behind_114 (Nat.zero_le _) (Nat.zero_le _), List.cons_append, List.nil_append, Nat.reduceAdd, Option.toList, z0]
    exact hQ hm' u' A' a b c dd
  · obtain ⟨np, h4, hn, st1, q1, v1, f1, hn1, h⟩ := h
    rw [r_tsIn (tgt := 115) (off := 114) dX10_behind_1 (by decide) (by decide) rfl rfl]
    have l1 := nm_f hn1
    have ex : (75 : Int32) + 2 * nI np = nI (75 + 2 * np) := by show nI 75 + nI 2 * nI np = _; rw [pk_mul, nI_add]
    have ex1 : nI (75 + 2 * np) + 1 = nI (75 + 2 * np + 1) := nI_add _ 1
    have i0 := vp_in_nI (show 75 + 2 * np < 217 by omega) (by omega)
    have i1 := vp_in_nI (show 75 + 2 * np + 1 < 217 by omega) (by omega)
    have k0 := nI_clamp (show 75 + 2 * np < 2 ^ 31 by omega)
    have k1 := nI_clamp (show 75 + 2 * np + 1 < 2 ^ 31 by omega)
    have p4 : ∀ x, upd (A 0) (75 + 2 * np) x 4 = nI np := fun x => (pk_un (by omega)).trans h4
    have p1 : ∀ x, upd (A 0) (75 + 2 * np) x 1 = A 0 1 := fun x => pk_un (by omega)
    have p44 : ∀ x y, upd (upd (A 0) (75 + 2 * np) x) (75 + 2 * np + 1) y 4 = nI np := fun x y => (pk_un (by omega)).trans (p4 x)
    simp only [r_al0 dX10_behind_115, r_getf dX10_behind_116 F10_13, r_bipush dX10_behind_119 kb75, r_iconst dX10_behind_121 ki2, r_al0 dX10_behind_122, r_getf dX10_behind_123 F10_13, r_iconst dX10_behind_126 ki4, r_iald dX10_behind_127, r_imul dX10_behind_128, r_iadd dX10_behind_129, r_al0 dX10_behind_130, r_iconst dX10_behind_131 ki0, r_al0 dX10_behind_132, r_getf dX10_behind_133 F10_13, r_iconst dX10_behind_136 ki0, r_iald dX10_behind_137, r_iconst dX10_behind_138 ki3, r_isub dX10_behind_139, List.cons_append, List.nil_append, Nat.reduceAdd, Option.toList, aI_ok, g10_0, z0, hM.r, rd_own hM.r, hM.r0, rd_own hM.r0, vs0, ck0, vs4, ck4, h4, ex, true_and]
    refine r_iv3 dX10_behind_140 M10_135 Y166 O166 (Nat.le_of_ble_eq_true rfl) (rcv_own hM.r) (Nat.le_refl _) (Nat.le_refl _) ?_
    refine m_numeral hM hB e7 he e8 hq h9 (by decide) hn1 (fun hm1 u1 hM1 ks1 g9 g0 gf s1 => ?_)
    have r7 : u1 7 = nI e := (ks1 7 (by decide) (by decide) (by decide) (by decide)).trans e7
    simp (disch := first | omega | (simp only [List.length_cons, List.length_nil]; omega)) only [r_iast dX10_behind_143, r_al0 dX10_behind_144, r_getf dX10_behind_145 F10_13, r_bipush dX10_behind_148 kb75, r_iconst dX10_behind_150 ki2, r_al0 dX10_behind_151, r_getf dX10_behind_152 F10_13, r_iconst dX10_behind_155 ki4, r_iald dX10_behind_156, r_imul dX10_behind_157, r_iadd dX10_behind_158, r_iconst dX10_behind_159 ki1, r_iadd dX10_behind_160, r_al0 dX10_behind_161, r_iconst dX10_behind_162 ki0, r_al0 dX10_behind_163, r_getf dX10_behind_164 F10_13, r_iconst dX10_behind_167 ki1, r_iald dX10_behind_168, r_iconst dX10_behind_169 ki3, r_isub dX10_behind_170, List.cons_append, List.nil_append, Nat.reduceAdd, Option.toList, aI_ok, g10_0, pk_un, pk_us, rd_up_eq, rd_up_ne, sI_ok, up_eq, up_ne, up_up, z0, hM1.r, rd_own hM1.r, hM1.r0, rd_own hM1.r0, vs1, ck1, vs4, ck4, h4, ex, ex1, k0, p4, p1, true_and, eV]
    refine ⟨i0, ?_⟩
    have s1o := s1
    have hM1o := hM1
    have s1 := s1.up (a := m + 1) (c := ia 217 (upd (A 0) (75 + 2 * np) (if f1 = 0 then v1 else 0))) (by omega)
    have hM1 := hM1.w0 (upd (A 0) (75 + 2 * np) (if f1 = 0 then v1 else 0))
    rcases h with ⟨hf, ho⟩ | ⟨hf, st2, q2, v2, f2, hn2, h⟩
    · skip
      refine r_iv3 dX10_behind_171 M10_135 Y166 O166 (Nat.le_of_ble_eq_true rfl) (rcv_own hM1.r) (Nat.le_refl _) (Nat.le_refl _) ?_
      refine m_numeralw hM1 (by rw [g9]; exact nI_f l1 hf) ?_
      simp (disch := first | omega | (simp only [List.length_cons, List.length_nil]; omega)) only [r_iast dX10_behind_174, r_al0 dX10_behind_175, r_getf dX10_behind_176 F10_13, r_iconst dX10_behind_179 ki4, r_dup2_ir dX10_behind_180, r_dup2_l dX10_behind_180, r_iald dX10_behind_181, r_iconst dX10_behind_182 ki1, r_iadd dX10_behind_183, r_iast dX10_behind_184, r_vret dX10_behind_185 (Nat.zero_le _) (Nat.zero_le _), List.cons_append, List.nil_append, Nat.reduceAdd, Option.toList, aI_ok, g10_0, pk_un, pk_us, rd_up_eq, rd_up_ne, sI_ok, up_eq, up_ne, up_up, z0, hM1.r, rd_own hM1.r, hM1.r0, rd_own hM1.r0, hM1o.r, rd_own hM1o.r, hM1o.r0, rd_own hM1o.r0, vs4, ck4, k1, true_and, eV, p44, h4, nI_1]
      refine ⟨i1, ?_⟩
      have hM2 := hM1o.w0 (upd (upd (upd (A 0) (75 + 2 * np) (if f1 = 0 then v1 else 0)) (75 + 2 * np + 1) 0) 4 (nI (np + 1)))
      exact hQ _ u1 _ hM2 (ks1.kl (A := A)) (by rw [ho]; exact ⟨g9, gf hf, ks1.r18, rfl⟩) (s1o.up (by omega))
    · subst hf
      rw [if_pos rfl] at hM1 s1 ⊢
      obtain ⟨g8, g11, g10⟩ := g0 rfl
      have l2 := nm_f hn2
      refine r_iv3 dX10_behind_171 M10_135 Y166 O166 (Nat.le_of_ble_eq_true rfl) (rcv_own hM1.r) (Nat.le_refl _) (Nat.le_refl _) ?_
      refine m_numeral hM1 hB r7 he g8 (nm_q hn1) g9 (by decide) hn2 (fun hm2 u2 hM2 ks2 w9 w0 wf s2 => ?_)
      have ks := ks1.trans ks2
      have s2 := s1.trans s2
      simp (disch := first | omega | (simp only [List.length_cons, List.length_nil]; omega)) only [r_iast dX10_behind_174, r_al0 dX10_behind_175, r_getf dX10_behind_176 F10_13, r_iconst dX10_behind_179 ki4, r_dup2_ir dX10_behind_180, r_dup2_l dX10_behind_180, r_iald dX10_behind_181, r_iconst dX10_behind_182 ki1, r_iadd dX10_behind_183, r_iast dX10_behind_184, r_vret dX10_behind_185 (Nat.zero_le _) (Nat.zero_le _), List.cons_append, List.nil_append, Nat.reduceAdd, Option.toList, aI_ok, g10_0, pk_un, pk_us, rd_up_eq, rd_up_ne, sI_ok, up_eq, up_ne, up_up, z0, hM2.r, rd_own hM2.r, hM2.r0, rd_own hM2.r0, vs4, ck4, k1, true_and, eV, p44, h4, nI_1]
      refine ⟨i1, ?_⟩
      have s3 := s2.up (a := m + 1) (c := ia 217 (upd (upd (upd (A 0) (75 + 2 * np) v1) (75 + 2 * np + 1) (if f2 = 0 then v2 else 0)) 4 (nI (np + 1)))) (by omega)
      have hM3 := hM2.w0 (upd (upd (upd (A 0) (75 + 2 * np) v1) (75 + 2 * np + 1) (if f2 = 0 then v2 else 0)) 4 (nI (np + 1)))
      rw [va_va] at hM3
      rcases h with ⟨hf, ho⟩ | ⟨hf, ho⟩
      · exact hQ _ u2 _ hM3 (ks.kl (A := A)) (by rw [ho]; exact ⟨w9, wf hf, ks.r18, rfl⟩) s3
      · subst hf
        rw [if_pos rfl] at hM3 s3
        obtain ⟨w8, w11, w10⟩ := w0 rfl
        exact hQ _ u2 _ hM3 (ks.kl (A := A)) (by rw [ho]; exact ⟨w9, w10.trans g10, w8, rfl, ks.r18, rfl⟩) s3
  · obtain ⟨nl, nw, h3, hn, h5, hw, hb⟩ := h
    rw [r_tsIn (tgt := 186) (off := 185) dX10_behind_1 (by decide) (by decide) rfl rfl]
    have ex : (91 : Int32) + 7 * nI nw = nI (91 + 7 * nw) := by show nI 91 + nI 7 * nI nw = _; rw [pk_mul, nI_add]
    simp only [r_al0 dX10_behind_186, r_bipush dX10_behind_187 kb91, r_bipush dX10_behind_189 kb7, r_al0 dX10_behind_191, r_getf dX10_behind_192 F10_13, r_iconst dX10_behind_195 ki5, r_iald dX10_behind_196, r_imul dX10_behind_197, r_iadd dX10_behind_198, List.cons_append, List.nil_append, Nat.reduceAdd, Option.toList, aI_ok, g10_0, z0, hM.r, rd_own hM.r, hM.r0, rd_own hM.r0, vs5, ck5, h5, ex, true_and]
    refine r_iv2 dX10_behind_199 M10_152 Y178 O178 (Nat.le_of_ble_eq_true rfl) (rcv_own hM.r) (Nat.le_refl _) (Nat.le_refl _) ?_
    refine m_wordRead hM hB e7 he e8 hq h9 h3 hn h5 hw hb (fun hm' u' A' a b c dd => ?_)
    simp only [r_vret dX10_behind_202 (Nat.zero_le _) (Nat.zero_le _), List.cons_append, List.nil_append, Nat.reduceAdd, Option.toList, z0]
    exact hQ hm' u' A' a b c dd
  · obtain ⟨np, nr, h4, hn, h6, hr, hR, hb⟩ := h
    have hsw : (nI 7).toInt < 0 ∨ ((7 : Nat) : Int) - 1 < (nI 7).toInt := by decide
    rw [r_tsOut (tgt := 203) dX10_behind_1 hsw rfl]
    have ex : (175 : Int32) + 2 * nI nr = nI (175 + 2 * nr) := by show nI 175 + nI 2 * nI nr = _; rw [pk_mul, nI_add]
    simp only [r_al0 dX10_behind_203, r_sipush dX10_behind_204 ks175, r_iconst dX10_behind_207 ki2, r_al0 dX10_behind_208, r_getf dX10_behind_209 F10_13, r_bipush dX10_behind_212 kb6, r_iald dX10_behind_214, r_imul dX10_behind_215, r_iadd dX10_behind_216, List.cons_append, List.nil_append, Nat.reduceAdd, Option.toList, aI_ok, g10_0, z0, hM.r, rd_own hM.r, hM.r0, rd_own hM.r0, vs6, ck6, h6, ex, true_and]
    refine r_iv2 dX10_behind_217 M10_155 Y179 O179 (Nat.le_of_ble_eq_true rfl) (rcv_own hM.r) (Nat.le_refl _) (Nat.le_refl _) ?_
    refine m_runRead hM hB e7 he e8 hq h9 h4 hn h6 hr hR hb (fun hm' u' A' a b c dd => ?_)
    simp only [r_vret dX10_behind_220 (Nat.zero_le _) (Nat.zero_le _), List.cons_append, List.nil_append, Nat.reduceAdd, Option.toList, z0]
    exact hQ hm' u' A' a b c dd
end MK
