def ruS (S : Nat → Int32) (nr : Nat) (a b : Int32) : Nat → Int32 := upd (upd (upd S (175 + 2 * nr) a) (175 + 2 * nr + 1) b) 6 (nI (nr + 1))
def BRun (T : Nat → Int32) (e q : Nat) (S : Nat → Int32) (np nr : Nat) (o : OU) : Prop := ∃ st1 q1 v1 f1, nmO T e q 0 (nI np - 1) st1 q1 v1 f1 ∧ ((f1 ≠ 0 ∧ o = oNo f1 st1 none) ∨ (f1 = 0 ∧ ∃ i st2 q2 v2 f2, i < np ∧ v1 = nI i ∧ nmO T e q1 1 (nI (min 6 (np - i))) st2 q2 v2 f2 ∧
  ((f2 ≠ 0 ∧ o = oNo f2 st2 none) ∨ (f2 = 0 ∧ ∃ l, 1 ≤ l ∧ l ≤ min 6 (np - i) ∧ v2 = nI l ∧ ((¬ (∀ x, x < l → runM S nr (i + x) = -1) ∧ o = oNo 3 st2 none) ∨ ((∀ x, x < l → runM S nr (i + x) = -1) ∧ o = oOk q2 (ruS S nr (nI i) (nI l))))))))
section MG
variable {X : HM} {EV : Nat → Value} {d : Nat} {hm : HM} {hs : Nat} {Q : QT} {m np nr : Nat} {u : Nat → Int32} {A : Nat → Nat → Int32} {R : Nat → Int64} {e q bg : Nat} {o : OU}
theorem m_runRead (hM : MO hm m u A R) (hB : BY (A 5) e) (e7 : u 7 = nI e) (he : e ≤ 900) (e8 : u 8 = nI q) (hq : q ≤ e) (h9 : u 9 = 0) (hp : A 0 4 = nI np) (hp8 : np ≤ 8) (hr : A 0 6 = nI nr) (hr4 : nr < 4) (hR : ∀ r, r < nr → ∃ f l, A 0 (175 + 2 * r) = nI f ∧ A 0 (175 + 2 * r + 1) = nI l ∧ f + l ≤ np ∧ 1 ≤ l ∧ l ≤ 6) (hb : BRun (A 5) e q (A 0) np nr o)
    (hQ : ∀ hm' u' A', MO hm' m u' A' R → KL u u' A A' → RO o u u' A A' → sm m (m + 16) hm hm' → Q none hm' hs) : CC X EV (d + 4) 179 [.ref m, .int (nI (175 + 2 * nr))] hm hs Q := by
  obtain ⟨st1, q1, v1, f1, hn1, hb⟩ := hb
  have l1 := nm_f hn1
  refine c_of (ls2 := [.ref m, .int (nI (175 + 2 * nr)), .null, .null, .null, .null]) Y179 (Nat.le_of_ble_eq_true rfl) rfl I179 ?_
  simp only [r_al0 dX10_runRead_0, r_iconst dX10_runRead_1 ki0, r_al0 dX10_runRead_2, r_getf dX10_runRead_3 F10_13, r_iconst dX10_runRead_6 ki4, r_iald dX10_runRead_7, r_iconst dX10_runRead_8 ki1, r_isub dX10_runRead_9, List.cons_append, List.nil_append, Nat.reduceAdd, Option.toList, aI_ok, g10_0, z0, hM.r, rd_own hM.r, hM.r0, rd_own hM.r0, vs4, ck4, hp, true_and]
  refine r_iv3 dX10_runRead_10 M10_135 Y166 O166 (Nat.le_of_ble_eq_true rfl) (rcv_own hM.r) (Nat.le_refl _) (Nat.le_refl _) ?_
  refine m_numeral hM hB e7 he e8 hq h9 (by decide) hn1 (fun hm1 u1 hM1 ks1 g9 g0 gf s1 => ?_)
  have r7 : u1 7 = nI e := (ks1 7 (by decide) (by decide) (by decide) (by decide)).trans e7
  rcases hb with ⟨hf, ho⟩ | ⟨hf, i, st2, q2, v2, f2, hi, ev1, hn2, hb⟩
  · rw [if_neg hf]
    have w37 : ∀ a b c : Int32, E1 X EV (d + 3) 10 0 0 none false cX10_runRead Q 37 [.ref m, .int (nI (175 + 2 * nr)), .int a, .int b, .null, .null] [.int c, .int 1, .ref m] 0 0 hm1 hs := by
      intro a b c
      refine r_iv3 dX10_runRead_37 M10_135 Y166 O166 (Nat.le_of_ble_eq_true rfl) (rcv_own hM1.r) (Nat.le_refl _) (Nat.le_refl _) ?_
      refine m_numeralw hM1 (by rw [g9]; exact nI_f l1 hf) ?_
      simp (disch := first | omega | (simp only [List.length_cons, List.length_nil]; omega)) only [r_is4 dX10_runRead_40, r_al0 dX10_runRead_42, r_getf dX10_runRead_43 F10_76, r_if_eq (tgt := 50) dX10_runRead_46 rfl, r_vret dX10_runRead_49 (Nat.zero_le _) (Nat.zero_le _), r_il2 dX10_runRead_50, r_is5 dX10_runRead_51, r_il5 dX10_runRead_53, r_il2 dX10_runRead_55, r_il4 dX10_runRead_56, r_iadd dX10_runRead_58, r_ic_ge (tgt := 87) dX10_runRead_59 rfl, r_al0 dX10_runRead_62, r_il5 dX10_runRead_63, r_al0 dX10_runRead_87, r_getf dX10_runRead_88 F10_13, r_il1 dX10_runRead_91, r_il2 dX10_runRead_92, r_iast dX10_runRead_93, r_al0 dX10_runRead_94, r_getf dX10_runRead_95 F10_13, r_il1 dX10_runRead_98, r_iconst dX10_runRead_99 ki1, r_iadd dX10_runRead_100, r_il4 dX10_runRead_101, r_iast dX10_runRead_103, r_al0 dX10_runRead_104, r_getf dX10_runRead_105 F10_13, r_bipush dX10_runRead_108 kb6, r_dup2_ir dX10_runRead_110, r_dup2_l dX10_runRead_110, r_iald dX10_runRead_111, r_iconst dX10_runRead_112 ki1, r_iadd dX10_runRead_113, r_iast dX10_runRead_114, r_vret dX10_runRead_115 (Nat.zero_le _) (Nat.zero_le _), List.cons_append, List.nil_append, Nat.reduceAdd, Option.toList, aI_ok, cat_f, cat_i, cat_n, cat_r, eq_self, g10_0, g10_9, pk_un, pk_us, rd_up_eq, rd_up_ne, sI_ok, true_and, up_eq, up_ne, up_up, z0, hM1.r, rd_own hM1.r, hM1.r, rd_own hM1.r, g9]
      refine ⟨fun z => absurd z (nI_f l1 hf), fun _ => ?_⟩
      exact hQ hm1 u1 A hM1 (ks1.kl (A := A)) (by rw [ho]; exact ⟨g9, gf hf, ks1.r18, rfl⟩) s1
    simp only [r_is2 dX10_runRead_13, r_al0 dX10_runRead_14, r_getf dX10_runRead_15 F10_13, r_iconst dX10_runRead_18 ki4, r_iald dX10_runRead_19, r_il2 dX10_runRead_20, r_isub dX10_runRead_21, r_is3 dX10_runRead_22, r_al0 dX10_runRead_23, r_iconst dX10_runRead_24 ki1, r_il3 dX10_runRead_25, r_bipush dX10_runRead_26 kb6, r_ic_le (tgt := 36) dX10_runRead_28 rfl, r_bipush dX10_runRead_31 kb6, r_gotoB (tgt := 37) dX10_runRead_33 rfl, r_il3 dX10_runRead_36, List.cons_append, List.nil_append, Nat.reduceAdd, Option.toList, aI_ok, cat_f, cat_i, cat_n, cat_r, eq_self, g10_0, true_and, z0, hM1.r, rd_own hM1.r, hM1.r0, rd_own hM1.r0, vs4, ck4, hp, true_and]
    try simp (disch := omega) only [E2, nI_1, nI_add, nI_leI, nI_ltI, nI_eq, nI_clamp]
    exact ⟨fun _ => w37 _ _ _, fun _ => w37 _ _ _⟩
  · subst hf
    obtain ⟨g8, g11, g10⟩ := g0 rfl
    have l2 := nm_f hn2
    rw [if_pos rfl, ev1]
    have h37 : ∀ b : Int32, E1 X EV (d + 3) 10 0 0 none false cX10_runRead Q 37 [.ref m, .int (nI (175 + 2 * nr)), .int (nI i), .int b, .null, .null] [.int (nI (min 6 (np - i))), .int 1, .ref m] 0 0 hm1 hs := by
      intro b
      refine r_iv3 dX10_runRead_37 M10_135 Y166 O166 (Nat.le_of_ble_eq_true rfl) (rcv_own hM1.r) (Nat.le_refl _) (Nat.le_refl _) ?_
      refine m_numeral hM1 hB r7 he g8 (nm_q hn1) g9 (by decide) hn2 (fun hm2 u2 hM2 ks2 w9 w0 wf s2 => ?_)
      have ks := ks1.trans ks2
      have s2 := s1.trans s2
      rcases hb with ⟨hf, ho⟩ | ⟨hf, l, hl1, hl6, ev2, hb⟩
      · rw [if_neg hf]
        simp only [r_is4 dX10_runRead_40, r_al0 dX10_runRead_42, r_getf dX10_runRead_43 F10_76, r_if_eqB (tgt := 50) dX10_runRead_46 rfl, r_vret dX10_runRead_49 (Nat.zero_le _) (Nat.zero_le _), List.cons_append, List.nil_append, Nat.reduceAdd, Option.toList, cat_f, cat_i, cat_n, cat_r, eq_self, g10_9, true_and, z0, hM2.r, rd_own hM2.r, hM2.r, rd_own hM2.r, w9]
        refine ⟨fun z => absurd z (nI_f l2 hf), fun _ => ?_⟩
        exact hQ hm2 u2 A hM2 (ks.kl (A := A)) (by rw [ho]; exact ⟨w9, wf hf, ks.r18, rfl⟩) s2
      · subst hf
        obtain ⟨w8, w11, w10⟩ := w0 rfl
        rw [if_pos rfl, ev2]
        simp only [r_is4 dX10_runRead_40, r_al0 dX10_runRead_42, r_getf dX10_runRead_43 F10_76, r_if_eq (tgt := 50) dX10_runRead_46 rfl, r_vret dX10_runRead_49 (Nat.zero_le _) (Nat.zero_le _), r_il2 dX10_runRead_50, r_is5 dX10_runRead_51, List.cons_append, List.nil_append, Nat.reduceAdd, Option.toList, cat_f, cat_i, cat_n, cat_r, eq_self, g10_9, true_and, z0, hM2.r, rd_own hM2.r, hM2.r, rd_own hM2.r, w9]
        refine ⟨fun _ => ?_, fun z => absurd rfl z⟩
        suffices H : ∀ k, k ≤ l → ∀ hm' u', MO hm' m u' A R → KS u u' → ((∀ x, x < k → runM (A 0) nr (i + x) = -1) ∧ u' 9 = 0 ∧ u' 8 = nI q2 ∧ u' 10 = u 10 ∨ ¬ (∀ x, x < k → runM (A 0) nr (i + x) = -1) ∧ u' 9 = nI 3 ∧ u' 10 = nI st2) → u' 11 = nI st2 → sm m (m + 16) hm hm' → E1 X EV (d + 3) 10 0 0 none false cX10_runRead Q 53 [.ref m, .int (nI (175 + 2 * nr)), .int (nI i), .int b, .int (nI l), .int (nI (i + k))] [] 0 0 hm' hs from
          H 0 (by omega) hm2 u2 hM2 ks (.inl ⟨fun x hx => absurd hx (by omega), w9, w8, w10.trans g10⟩) w11 s2
        refine up_loop l _ ?_ ?_
        · intro hm' u' hM' ks' hst g11' s'
          have p1 : nI (175 + 2 * nr) + 1 = nI (175 + 2 * nr + 1) := nI_add _ 1
          have c6 : ∀ a b, upd (upd (A 0) (175 + 2 * nr) a) (175 + 2 * nr + 1) b 6 = nI nr := fun a b => by rw [pk_un (by omega), pk_un (by omega)]; exact hr
          simp (disch := first | omega | (simp only [List.length_cons, List.length_nil]; omega)) only [r_il5 dX10_runRead_53, r_il2 dX10_runRead_55, r_il4 dX10_runRead_56, r_iadd dX10_runRead_58, r_ic_ge (tgt := 87) dX10_runRead_59 rfl, r_al0 dX10_runRead_62, r_il5 dX10_runRead_63, r_al0 dX10_runRead_87, r_getf dX10_runRead_88 F10_13, r_il1 dX10_runRead_91, r_il2 dX10_runRead_92, r_iast dX10_runRead_93, r_al0 dX10_runRead_94, r_getf dX10_runRead_95 F10_13, r_il1 dX10_runRead_98, r_iconst dX10_runRead_99 ki1, r_iadd dX10_runRead_100, r_il4 dX10_runRead_101, r_iast dX10_runRead_103, r_al0 dX10_runRead_104, r_getf dX10_runRead_105 F10_13, r_bipush dX10_runRead_108 kb6, r_dup2_ir dX10_runRead_110, r_dup2_l dX10_runRead_110, r_iald dX10_runRead_111, r_iconst dX10_runRead_112 ki1, r_iadd dX10_runRead_113, r_iast dX10_runRead_114, r_vret dX10_runRead_115 (Nat.zero_le _) (Nat.zero_le _), List.cons_append, List.nil_append, Nat.reduceAdd, Option.toList, aI_ok, g10_0, pk_un, pk_us, rd_up_eq, rd_up_ne, sI_ok, up_eq, up_ne, up_up, z0, hM'.r, rd_own hM'.r, hM'.r0, rd_own hM'.r0, nI_add, vs6, ck6, true_and, p1, hr, c6, nI_1, nI_clamp (show 175 + 2 * nr < 2 ^ 31 by omega), nI_clamp (show 175 + 2 * nr + 1 < 2 ^ 31 by omega)]
          refine ⟨fun _ => ⟨vp_in_nI (by omega) (by omega), vp_in_nI (by omega) (by omega), ?_⟩, fun z => absurd (Int32.le_refl _) z⟩
          refine hQ _ u' (va_up A 0 (ruS (A 0) nr (nI i) (nI l))) (hM'.w0 (ruS (A 0) nr (nI i) (nI l))) (ks'.kl (A := A)) ?_ (s'.up (by omega))
          rcases hst with ⟨hfree, t9, t8, t10⟩ | ⟨hno, t9, t10⟩
          · have ho := (hb.resolve_left (fun z => z.1 hfree)).2
            rw [ho]; exact ⟨t9, t10, t8, rfl, ks'.r18, rfl⟩
          · have ho := (hb.resolve_right (fun z => hno z.1)).2
            rw [ho]; exact ⟨t9, t10, ks'.r18, rfl⟩
        · intro k hk ih hm' u' hM' ks' hst g11' s'
          simp (disch := first | omega | (simp only [List.length_cons, List.length_nil]; omega)) only [r_il5 dX10_runRead_53, r_il2 dX10_runRead_55, r_il4 dX10_runRead_56, r_iadd dX10_runRead_58, r_ic_ge (tgt := 87) dX10_runRead_59 rfl, r_al0 dX10_runRead_62, r_il5 dX10_runRead_63, r_al0 dX10_runRead_87, r_getf dX10_runRead_88 F10_13, r_il1 dX10_runRead_91, r_il2 dX10_runRead_92, r_iast dX10_runRead_93, r_al0 dX10_runRead_94, r_getf dX10_runRead_95 F10_13, r_il1 dX10_runRead_98, r_iconst dX10_runRead_99 ki1, r_iadd dX10_runRead_100, r_il4 dX10_runRead_101, r_iast dX10_runRead_103, r_al0 dX10_runRead_104, r_getf dX10_runRead_105 F10_13, r_bipush dX10_runRead_108 kb6, r_dup2_ir dX10_runRead_110, r_dup2_l dX10_runRead_110, r_iald dX10_runRead_111, r_iconst dX10_runRead_112 ki1, r_iadd dX10_runRead_113, r_iast dX10_runRead_114, r_vret dX10_runRead_115 (Nat.zero_le _) (Nat.zero_le _), List.cons_append, List.nil_append, Nat.reduceAdd, Option.toList, aI_ok, g10_0, pk_un, pk_us, rd_up_eq, rd_up_ne, sI_ok, up_eq, up_ne, up_up, z0, hM'.r, rd_own hM'.r, hM'.r, rd_own hM'.r, nI_add]
          try simp (disch := omega) only [E2, nI_1, nI_add, nI_leI, nI_ltI, nI_eq, nI_clamp]
          refine ⟨fun z => absurd z (by omega), fun _ => ?_⟩
          refine r_iv2 dX10_runRead_65 M10_187 Y226 O226 (Nat.le_of_ble_eq_true rfl) (rcv_own hM'.r) (Nat.le_refl _) (Nat.le_refl _) ?_
          refine m_runOf hM' hr (by omega) hR hp8 (by omega) ?_
          have h81 : ∀ hm3 u3, MO hm3 m u3 A R → KS u u3 → ((∀ x, x < k + 1 → runM (A 0) nr (i + x) = -1) ∧ u3 9 = 0 ∧ u3 8 = nI q2 ∧ u3 10 = u 10 ∨ ¬ (∀ x, x < k + 1 → runM (A 0) nr (i + x) = -1) ∧ u3 9 = nI 3 ∧ u3 10 = nI st2) → u3 11 = nI st2 → sm m (m + 16) hm hm3 → E1 X EV (d + 3) 10 0 0 none false cX10_runRead Q 81 [.ref m, .int (nI (175 + 2 * nr)), .int (nI i), .int b, .int (nI l), .int (nI (i + k))] [] 0 0 hm3 hs := by
            intro hm3 u3 hM3 ks3 hst3 g3 s3
            simp only [r_ii5 dX10_runRead_81 kn1, r_gotoB (tgt := 53) dX10_runRead_84 rfl, List.cons_append, List.nil_append, Nat.reduceAdd, Option.toList, cat_f, cat_i, cat_n, cat_r, eq_self, true_and, z0]
            try simp (disch := omega) only [E2, nI_1, nI_add, nI_leI, nI_ltI, nI_eq, nI_clamp]
            exact ih hm3 u3 hM3 ks3 hst3 g3 s3
          by_cases hfr : runM (A 0) nr (i + k) = -1
          · rw [hfr]
            simp only [r_iconst dX10_runRead_68 kim1, r_ic_eqB (tgt := 81) dX10_runRead_69 rfl, r_al0 dX10_runRead_72, r_iconst dX10_runRead_73 ki3, r_al0 dX10_runRead_74, r_getf dX10_runRead_75 F10_120, List.cons_append, List.nil_append, Nat.reduceAdd, Option.toList, g10_11, z0]
            refine ⟨fun _ => ?_, fun z => absurd trivial z⟩
            try simp (disch := omega) only [E2, nI_1, nI_add, nI_leI, nI_ltI, nI_eq, nI_clamp]
            refine h81 hm' u' hM' ks' ?_ g11' s'
            rcases hst with ⟨hfree, t⟩ | ⟨hno, t⟩
            · exact .inl ⟨fun x hx => by
                rcases Nat.lt_or_ge x k with h' | h'
                · exact hfree x h'
                · rw [show x = k by omega]; exact hfr, t⟩
            · exact .inr ⟨fun z => hno (fun x hx => z x (by omega)), t⟩
          · simp only [r_iconst dX10_runRead_68 kim1, r_ic_eqB (tgt := 81) dX10_runRead_69 rfl, r_al0 dX10_runRead_72, r_iconst dX10_runRead_73 ki3, r_al0 dX10_runRead_74, r_getf dX10_runRead_75 F10_120, List.cons_append, List.nil_append, Nat.reduceAdd, Option.toList, g10_11, z0, hM'.r, rd_own hM'.r, hM'.r, rd_own hM'.r, g11']
            refine ⟨fun z => absurd z hfr, fun _ => ?_⟩
            refine r_iv3 dX10_runRead_78 M10_116 Y161 O161 (Nat.le_of_ble_eq_true rfl) (rcv_own hM'.r) (Nat.le_refl _) (Nat.le_refl _) ?_
            have hno1 : ¬ (∀ x, x < k + 1 → runM (A 0) nr (i + x) = -1) := fun z => hfr (z k (by omega))
            refine m_fails hM' (fun t9 => ?_) (fun t9 hm3 hM3 s3 => ?_)
            · refine h81 hm' u' hM' ks' (.inr ⟨hno1, ?_⟩) g11' s'
              rcases hst with ⟨-, t, -⟩ | ⟨-, t⟩
              · exact absurd t t9
              · exact t
            · exact h81 hm3 _ hM3 (fun k h1 h2 h3 h4 => by rw [pk_un h3, pk_un h2]; exact ks' k h1 h2 h3 h4) (.inr ⟨hno1, by rw [pk_un (by decide), pk_us]; rfl, pk_us⟩) (by rw [pk_un (by decide), pk_un (by decide)]; exact g11') (s'.trans s3)
    simp only [r_is2 dX10_runRead_13, r_al0 dX10_runRead_14, r_getf dX10_runRead_15 F10_13, r_iconst dX10_runRead_18 ki4, r_iald dX10_runRead_19, r_il2 dX10_runRead_20, r_isub dX10_runRead_21, r_is3 dX10_runRead_22, r_al0 dX10_runRead_23, r_iconst dX10_runRead_24 ki1, r_il3 dX10_runRead_25, r_bipush dX10_runRead_26 kb6, r_ic_le (tgt := 36) dX10_runRead_28 rfl, r_bipush dX10_runRead_31 kb6, r_gotoB (tgt := 37) dX10_runRead_33 rfl, r_il3 dX10_runRead_36, List.cons_append, List.nil_append, Nat.reduceAdd, Option.toList, aI_ok, cat_f, cat_i, cat_n, cat_r, eq_self, g10_0, true_and, z0, hM1.r, rd_own hM1.r, hM1.r0, rd_own hM1.r0, vs4, ck4, hp, true_and, nI_sub (show i ≤ np by omega), show (6 : Int32) = nI 6 from rfl]
    try simp (disch := omega) only [E2, nI_1, nI_add, nI_leI, nI_ltI, nI_eq, nI_clamp]
    refine ⟨fun z => ?_, fun z => ?_⟩
    · have := h37 (nI (np - i))
      rw [show min 6 (np - i) = np - i by omega] at this
      exact this
    · have := h37 (nI (np - i))
      rw [show min 6 (np - i) = 6 by omega] at this
      exact this
end MG
