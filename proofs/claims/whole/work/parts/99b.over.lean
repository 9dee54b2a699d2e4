section MD
variable {X : HM} {EV : Nat → Value} {d : Nat} {hm : HM} {hs : Nat} {Q : QT} {m n : Nat} {u : Nat → Int32} {A : Nat → Nat → Int32} {R : Nat → Int64} {e q bg : Nat} {o : OU} {L : Nat → Nat}
theorem KM.kl {u u' : Nat → Int32} {A A' : Nat → Nat → Int32} (k : KM u u' A A') : KL u u' A A' := by
  have f := k.2
  have g := k.1
  exact ⟨⟨g 3 (by decide) (by decide) (by decide) (by decide) (by decide), g 6 (by decide) (by decide) (by decide) (by decide) (by decide), g 7 (by decide) (by decide) (by decide) (by decide) (by decide), g 12 (by decide) (by decide) (by decide) (by decide) (by decide)⟩, f 1 (by decide) (by decide) (by decide) (by decide), f 2 (by decide) (by decide) (by decide) (by decide), f 5 (by decide) (by decide) (by decide) (by decide), f 24 (by decide) (by decide) (by decide) (by decide), f 25 (by decide) (by decide) (by decide) (by decide), f 26 (by decide) (by decide) (by decide) (by decide)⟩
theorem KR.kl {u u' : Nat → Int32} {A A' : Nat → Nat → Int32} (k : KR u u' A A') : KL u u' A A' := by
  have f := k.2
  have g := k.1
  exact ⟨⟨g 3 (by decide) (by decide) (by decide) (by decide) (by decide) (by decide), g 6 (by decide) (by decide) (by decide) (by decide) (by decide) (by decide), g 7 (by decide) (by decide) (by decide) (by decide) (by decide) (by decide), g 12 (by decide) (by decide) (by decide) (by decide) (by decide) (by decide)⟩, f 1 (by decide) (by decide) (by decide) (by decide) (by decide), f 2 (by decide) (by decide) (by decide) (by decide) (by decide), f 5 (by decide) (by decide) (by decide) (by decide) (by decide), f 24 (by decide) (by decide) (by decide) (by decide) (by decide), f 25 (by decide) (by decide) (by decide) (by decide) (by decide), f 26 (by decide) (by decide) (by decide) (by decide) (by decide)⟩
theorem m_overRead (hM : MO hm m u A R) (hB : BY (A 5) e) (e7 : u 7 = nI e) (he : e ≤ 900) (e8 : u 8 = nI q) (hq : q ≤ e) (h9 : u 9 = 0) (hn : A 0 2 = nI n) (hn12 : n ≤ 12) (hL : LN (A 0) n L) (h : BOver (A 5) e bg q (A 0) L n o)
    (hQ : ∀ hm' u' A', MO hm' m u' A' R → KL u u' A A' → RO o u u' A A' → sm m (m + 16) hm hm' → Q none hm' hs) : CC X EV (d + 16) 175 [.ref m, .int (nI bg)] hm hs Q := by
  obtain ⟨st1, q1, v1, f1, hn1, h⟩ := h
  have l1 := nm_f hn1
  refine c_of (ls2 := [.ref m, .int (nI bg), .null, .null, .null]) Y175 (Nat.le_of_ble_eq_true rfl) rfl I175 ?_
  simp only [r_al0 dX10_overRead_0, r_iconst dX10_overRead_1 ki0, r_al0 dX10_overRead_2, r_getf dX10_overRead_3 F10_13, r_iconst dX10_overRead_6 ki2, r_iald dX10_overRead_7, r_iconst dX10_overRead_8 ki1, r_isub dX10_overRead_9, List.cons_append, List.nil_append, Nat.reduceAdd, Option.toList, aI_ok, g10_0, z0, hM.r, rd_own hM.r, hM.r0, rd_own hM.r0, vs2, ck2, hn, true_and]
  refine r_iv3 dX10_overRead_10 M10_135 Y166 O166 (Nat.le_of_ble_eq_true rfl) (rcv_own hM.r) (Nat.le_refl _) (Nat.le_refl _) ?_
  refine m_numeral hM hB e7 he e8 hq h9 (by decide) hn1 (fun hm1 u1 hM1 ks1 g9 g0 gf s1 => ?_)
  have r7 : u1 7 = nI e := (ks1 7 (by decide) (by decide) (by decide) (by decide)).trans e7
  rcases h with ⟨hf, ho⟩ | ⟨hf, i, st2, q2, v2, f2, hi, ev1, hn2, h⟩
  · rw [if_neg hf]
    simp only [r_is2 dX10_overRead_13, r_al0 dX10_overRead_14, r_iconst dX10_overRead_15 ki0, r_al0 dX10_overRead_16, r_getf dX10_overRead_17 F10_13, r_iconst dX10_overRead_20 ki2, r_iald dX10_overRead_21, r_iconst dX10_overRead_22 ki1, r_isub dX10_overRead_23, List.cons_append, List.nil_append, Nat.reduceAdd, Option.toList, aI_ok, cat_f, cat_i, cat_n, cat_r, eq_self, g10_0, true_and, z0, hM1.r, rd_own hM1.r, hM1.r0, rd_own hM1.r0, vs2, ck2, hn, true_and]
    refine r_iv3 dX10_overRead_24 M10_135 Y166 O166 (Nat.le_of_ble_eq_true rfl) (rcv_own hM1.r) (Nat.le_refl _) (Nat.le_refl _) ?_
    refine m_numeralw hM1 (by rw [g9]; exact nI_f l1 hf) ?_
    simp only [r_is3 dX10_overRead_27, r_al0 dX10_overRead_28, r_getf dX10_overRead_29 F10_76, r_if_eq (tgt := 36) dX10_overRead_32 rfl, r_vret dX10_overRead_35 (Nat.zero_le _) (Nat.zero_le _), r_il2 dX10_overRead_36, r_il3 dX10_overRead_37, r_ic_eq (tgt := 67) dX10_overRead_38 rfl, r_al0 dX10_overRead_41, r_il2 dX10_overRead_42, r_il3 dX10_overRead_43, r_al0 dX10_overRead_67, r_iconst dX10_overRead_68 ki3, r_al0 dX10_overRead_69, r_getf dX10_overRead_70 F10_120, List.cons_append, List.nil_append, Nat.reduceAdd, Option.toList, cat_f, cat_i, cat_n, cat_r, eq_self, g10_11, g10_9, true_and, z0, hM1.r, rd_own hM1.r, hM1.r, rd_own hM1.r, g9]
    refine ⟨fun z => absurd z (nI_f l1 hf), fun _ => ?_⟩
    exact hQ hm1 u1 A hM1 ks1.kl (by rw [ho]; exact ⟨g9, gf hf, ks1.r18, rfl⟩) s1
  · subst hf
    obtain ⟨g8, g11, g10⟩ := g0 rfl
    have l2 := nm_f hn2
    rw [if_pos rfl]
    simp only [r_is2 dX10_overRead_13, r_al0 dX10_overRead_14, r_iconst dX10_overRead_15 ki0, r_al0 dX10_overRead_16, r_getf dX10_overRead_17 F10_13, r_iconst dX10_overRead_20 ki2, r_iald dX10_overRead_21, r_iconst dX10_overRead_22 ki1, r_isub dX10_overRead_23, List.cons_append, List.nil_append, Nat.reduceAdd, Option.toList, aI_ok, cat_f, cat_i, cat_n, cat_r, eq_self, g10_0, true_and, z0, hM1.r, rd_own hM1.r, hM1.r0, rd_own hM1.r0, vs2, ck2, hn, true_and]
    refine r_iv3 dX10_overRead_24 M10_135 Y166 O166 (Nat.le_of_ble_eq_true rfl) (rcv_own hM1.r) (Nat.le_refl _) (Nat.le_refl _) ?_
    refine m_numeral hM1 hB r7 he g8 (nm_q hn1) g9 (by decide) hn2 (fun hm2 u2 hM2 ks2 w9 w0 wf s2 => ?_)
    have ks := ks1.trans ks2
    have s12 := s1.trans s2
    rcases h with ⟨hf, ho⟩ | ⟨hf, j, hj, ev2, h⟩
    · rw [if_neg hf]
      simp only [r_is3 dX10_overRead_27, r_al0 dX10_overRead_28, r_getf dX10_overRead_29 F10_76, r_if_eq (tgt := 36) dX10_overRead_32 rfl, r_vret dX10_overRead_35 (Nat.zero_le _) (Nat.zero_le _), r_il2 dX10_overRead_36, r_il3 dX10_overRead_37, r_ic_eq (tgt := 67) dX10_overRead_38 rfl, r_al0 dX10_overRead_41, r_il2 dX10_overRead_42, r_il3 dX10_overRead_43, r_al0 dX10_overRead_67, r_iconst dX10_overRead_68 ki3, r_al0 dX10_overRead_69, r_getf dX10_overRead_70 F10_120, List.cons_append, List.nil_append, Nat.reduceAdd, Option.toList, cat_f, cat_i, cat_n, cat_r, eq_self, g10_11, g10_9, true_and, z0, hM2.r, rd_own hM2.r, hM2.r, rd_own hM2.r, w9]
      refine ⟨fun z => absurd z (nI_f l2 hf), fun _ => ?_⟩
      exact hQ hm2 u2 A hM2 ks.kl (by rw [ho]; exact ⟨w9, wf hf, ks.r18, rfl⟩) s12
    · subst hf
      obtain ⟨w8, w11, w10⟩ := w0 rfl
      have hin := vp_in_nI (show 195 + i < 217 by omega) (by omega)
      rw [if_pos rfl, ev1, ev2]
      have h67 : (¬ ((i ≠ j ∧ cmn (A 0) L i j ≠ -1) ∧ ¬ bt (A 0 (195 + i)) j = true)) → E1 X EV (d + 15) 10 0 0 none false cX10_overRead Q 67 [.ref m, .int (nI bg), .int (nI i), .int (nI j), .null] [] 0 0 hm2 hs := by
        intro hno
        have ho := (h.resolve_right (fun z => hno z.1)).2
        simp only [r_al0 dX10_overRead_67, r_iconst dX10_overRead_68 ki3, r_al0 dX10_overRead_69, r_getf dX10_overRead_70 F10_120, List.cons_append, List.nil_append, Nat.reduceAdd, Option.toList, g10_11, z0, hM2.r, rd_own hM2.r, hM2.r, rd_own hM2.r, w11]
        refine r_iv3 dX10_overRead_73 M10_116 Y161 O161 (Nat.le_of_ble_eq_true rfl) (rcv_own hM2.r) (Nat.le_refl _) (Nat.le_refl _) ?_
        refine m_fails hM2 (fun z => absurd w9 z) (fun _ hm6 hM6 s6 => ?_)
        simp only [r_vret dX10_overRead_76 (Nat.zero_le _) (Nat.zero_le _), List.cons_append, List.nil_append, Nat.reduceAdd, Option.toList, z0]
        exact hQ hm6 _ A hM6 (ks.kl (A := A)) (by rw [ho]; exact ⟨rfl, rfl, ks.r18, rfl⟩) (s12.trans s6)
      simp only [r_is3 dX10_overRead_27, r_al0 dX10_overRead_28, r_getf dX10_overRead_29 F10_76, r_if_eq (tgt := 36) dX10_overRead_32 rfl, r_vret dX10_overRead_35 (Nat.zero_le _) (Nat.zero_le _), r_il2 dX10_overRead_36, r_il3 dX10_overRead_37, r_ic_eqB (tgt := 67) dX10_overRead_38 rfl, r_al0 dX10_overRead_41, r_il2 dX10_overRead_42, r_il3 dX10_overRead_43, List.cons_append, List.nil_append, Nat.reduceAdd, Option.toList, cat_f, cat_i, cat_n, cat_r, eq_self, g10_9, true_and, z0, hM2.r, rd_own hM2.r, hM2.r, rd_own hM2.r, w9]
      refine ⟨fun _ => ⟨fun hij => ?_, fun hij => ?_⟩, fun z => absurd rfl z⟩
      · try simp (disch := omega) only [E2, nI_1, nI_add, nI_leI, nI_ltI, nI_eq, nI_clamp]
        rw [nI_eq (by omega) (by omega)] at hij
        exact h67 (fun z => z.1.1 hij)
      have hij : ¬ i = j := fun z => hij (by rw [z])
      refine r_iv3 dX10_overRead_44 M10_175 Y188 O188 (Nat.le_of_ble_eq_true rfl) (rcv_own hM2.r) (Nat.le_refl _) (Nat.le_refl _) ?_
      refine m_cross hM2 (by omega) (by omega) (hL i hi).1 (hL i hi).2 (hL j hj).1 (hL j hj).2 ?_
      simp only [r_if_eqB (tgt := 67) dX10_overRead_47 rfl, r_al0 dX10_overRead_50, r_getf dX10_overRead_51 F10_13, r_sipush dX10_overRead_54 ks195, r_il2 dX10_overRead_57, r_iadd dX10_overRead_58, r_iald dX10_overRead_59, r_il3 dX10_overRead_60, List.cons_append, List.nil_append, Nat.reduceAdd, Option.toList, aI_ok, g10_0, z0, hM2.r, rd_own hM2.r, hM2.r0, rd_own hM2.r0, s195, nI_clamp (show 195 + i < 2 ^ 31 by omega)]
      refine ⟨fun c1 => ?_, fun c1 => ⟨hin, ?_⟩⟩
      · try simp (disch := omega) only [E2, nI_1, nI_add, nI_leI, nI_ltI, nI_eq, nI_clamp]
        exact h67 (fun z => c1 z.1)
      have c1 : i ≠ j ∧ cmn (A 0) L i j ≠ -1 := Classical.not_not.mp c1
      refine r_ist2 dX10_overRead_61 M10_178 Y156 (Nat.le_of_ble_eq_true rfl) (Nat.le_refl _) (Nat.le_refl _) ?_
      refine m_has (by omega) ?_
      simp only [r_if_eqB (tgt := 77) dX10_overRead_64 rfl, List.cons_append, List.nil_append, Nat.reduceAdd, Option.toList, z0]
      refine ⟨fun c2 => ?_, fun c2 => ?_⟩
      · try simp (disch := omega) only [E2, nI_1, nI_add, nI_leI, nI_ltI, nI_eq, nI_clamp]
        have c2 : ¬ bt (A 0 (195 + i)) j = true := c2
        have h := (h.resolve_left (fun z => z.1 ⟨c1, c2⟩)).2
        have h115 : ∀ hm' u' A', MO hm' m u' A' R → A' 0 = A 0 → sm m (m + 16) hm hm' → ∀ y, (∀ hm'', MO hm'' m u' (va_up A' 0 (tldM (A 0) i j)) R → sm m (m + 16) hm hm'' → Q none hm'' hs) → E1 X EV (d + 15) 10 0 0 none false cX10_overRead Q 115 [.ref m, .int (nI bg), .int (nI i), .int (nI j), y] [] 0 0 hm' hs := by
          intro hm' u' A' hM' e0 s' y hq
          simp (disch := first | omega | (simp only [List.length_cons, List.length_nil]; omega)) only [r_al0 dX10_overRead_115, r_getf dX10_overRead_116 F10_13, r_sipush dX10_overRead_119 ks195, r_il2 dX10_overRead_122, r_iadd dX10_overRead_123, r_dup2_ir dX10_overRead_124, r_dup2_l dX10_overRead_124, r_iald dX10_overRead_125, r_iconst dX10_overRead_126 ki1, r_il3 dX10_overRead_127, r_ishl dX10_overRead_128, r_ior dX10_overRead_129, r_iast dX10_overRead_130, r_vret dX10_overRead_131 (Nat.zero_le _) (Nat.zero_le _), List.cons_append, List.nil_append, Nat.reduceAdd, Option.toList, aI_ok, g10_0, pk_un, pk_us, rd_up_eq, rd_up_ne, sI_ok, up_eq, up_ne, up_up, z0, hM'.r, rd_own hM'.r, hM'.r0, rd_own hM'.r0, e0, s195, nI_clamp (show 195 + i < 2 ^ 31 by omega)]
          refine ⟨hin, hin, ?_⟩
          exact hq _ (hM'.w0 (tldM (A 0) i j)) (s'.up (by omega))
        simp only [r_al0 dX10_overRead_77, r_il2 dX10_overRead_78, r_il3 dX10_overRead_79, List.cons_append, List.nil_append, Nat.reduceAdd, Option.toList, z0]
        refine r_iv3 dX10_overRead_80 M10_181 Y194 O194 (Nat.le_of_ble_eq_true rfl) (rcv_own hM2.r) (Nat.le_refl _) (Nat.le_refl _) ?_
        refine m_whyOver hM2 (n := n) hn hn12 hi hj (fun e => c1.1 e.symm) (Bool.not_eq_true _ ▸ c2) (fun hc hm3 u3 A3 D eD d1 d2 hM3 k3 e18 hR s3 => ?_) (fun hc hm3 u3 A3 hM3 k3 s3 => ?_)
        · have ho := (h.resolve_right (fun z => z.1 hc)).2
          simp only [r_is4 dX10_overRead_83, r_il4 dX10_overRead_85, r_bipush dX10_overRead_87 kbm5, r_ic_ne (tgt := 101) dX10_overRead_89 rfl, r_al0 dX10_overRead_92, r_iconst dX10_overRead_93 ki5, r_il1 dX10_overRead_94, r_il4 dX10_overRead_101, r_bipush dX10_overRead_103 kbm9, r_ic_neB (tgt := 115) dX10_overRead_105 rfl, r_al0 dX10_overRead_108, r_bipush dX10_overRead_109 kb6, r_il1 dX10_overRead_111, List.cons_append, List.nil_append, Nat.reduceAdd, Option.toList, cat_f, cat_i, cat_n, cat_r, eq_self, true_and, z0]
          refine ⟨fun z => absurd (by decide) z, fun _ => ?_⟩
          refine r_iv3 dX10_overRead_95 M10_116 Y161 O161 (Nat.le_of_ble_eq_true rfl) (rcv_own hM3.r) (Nat.le_refl _) (Nat.le_refl _) ?_
          have u9 : u3 9 = 0 := (k3.1 9 (by decide) (by decide) (by decide) (by decide) (by decide) (by decide)).trans w9
          refine m_fails hM3 (fun z => absurd u9 z) (fun _ hm6 hM6 s6 => ?_)
          simp only [r_gotoB (tgt := 115) dX10_overRead_98 rfl, List.cons_append, List.nil_append, Nat.reduceAdd, Option.toList, z0]
          try simp (disch := omega) only [E2, nI_1, nI_add, nI_leI, nI_ltI, nI_eq, nI_clamp]
          have a0 : A3 0 = A 0 := k3.2 0 (by decide) (by decide) (by decide) (by decide) (by decide)
          refine h115 hm6 _ A3 hM6 a0 ((s12.trans s3).trans s6) _ (fun hm7 hM7 s7 => ?_)
          have kl : KL u (upd (upd u3 9 5) 10 (nI bg)) A (va_up A3 0 (tldM (A 0) i j)) := (ks.kl (A := A)).trans k3.kl
          exact hQ hm7 _ _ hM7 kl (by rw [ho]; exact ⟨rfl, rfl, D, eD, d1, d2, e18, hR⟩) s7
        · have h := (h.resolve_left (fun z => hc z.1)).2
          have a0 : A3 0 = A 0 := k3.S
          have u9 : u3 9 = 0 := (k3.1 9 (by decide) (by decide) (by decide) (by decide) (by decide)).trans w9
          have kl3 := (ks.kl (A := A)).trans k3.kl
          have r18 : u3 18 = u 18 := (k3.1 18 (by decide) (by decide) (by decide) (by decide) (by decide)).trans ks.r18
          have a16 : A3 16 = A 16 := k3.2 16 (by decide) (by decide) (by decide) (by decide)
          by_cases hw : wyM (upd (A 0) (195 + i) (A 0 (195 + i) ||| sb j)) n = 0
          · have ho := (h.resolve_right (fun z => z.1 hw)).2
            rw [if_pos hw]
            simp only [r_is4 dX10_overRead_83, r_il4 dX10_overRead_85, r_bipush dX10_overRead_87 kbm5, r_ic_ne (tgt := 101) dX10_overRead_89 rfl, r_al0 dX10_overRead_92, r_iconst dX10_overRead_93 ki5, r_il1 dX10_overRead_94, r_il4 dX10_overRead_101, r_bipush dX10_overRead_103 kbm9, r_ic_neB (tgt := 115) dX10_overRead_105 rfl, r_al0 dX10_overRead_108, r_bipush dX10_overRead_109 kb6, r_il1 dX10_overRead_111, List.cons_append, List.nil_append, Nat.reduceAdd, Option.toList, cat_f, cat_i, cat_n, cat_r, eq_self, true_and, z0]
            refine ⟨fun _ => ⟨fun z => absurd (by decide) z, fun _ => ?_⟩, fun z => absurd (by decide) z⟩
            refine r_iv3 dX10_overRead_112 M10_116 Y161 O161 (Nat.le_of_ble_eq_true rfl) (rcv_own hM3.r) (Nat.le_refl _) (Nat.le_refl _) ?_
            refine m_fails hM3 (fun z => absurd u9 z) (fun _ hm6 hM6 s6 => ?_)
            refine h115 hm6 _ A3 hM6 a0 ((s12.trans s3).trans s6) _ (fun hm7 hM7 s7 => ?_)
            exact hQ hm7 _ _ hM7 (show KL u (upd (upd u3 9 6) 10 (nI bg)) A (va_up A3 0 (tldM (A 0) i j)) from kl3) (by rw [ho]; exact ⟨rfl, rfl, r18, a16⟩) s7
          · have ho := (h.resolve_left (fun z => hw z.1)).2
            rw [if_neg hw]
            simp only [r_is4 dX10_overRead_83, r_il4 dX10_overRead_85, r_bipush dX10_overRead_87 kbm5, r_ic_ne (tgt := 101) dX10_overRead_89 rfl, r_al0 dX10_overRead_92, r_iconst dX10_overRead_93 ki5, r_il1 dX10_overRead_94, r_il4 dX10_overRead_101, r_bipush dX10_overRead_103 kbm9, r_ic_neB (tgt := 115) dX10_overRead_105 rfl, r_al0 dX10_overRead_108, r_bipush dX10_overRead_109 kb6, r_il1 dX10_overRead_111, List.cons_append, List.nil_append, Nat.reduceAdd, Option.toList, cat_f, cat_i, cat_n, cat_r, eq_self, true_and, z0]
            refine ⟨fun _ => ⟨fun _ => ?_, fun z => absurd (by decide) z⟩, fun z => absurd (by decide) z⟩
            try simp (disch := omega) only [E2, nI_1, nI_add, nI_leI, nI_ltI, nI_eq, nI_clamp]
            refine h115 hm3 u3 A3 hM3 a0 (s12.trans s3) _ (fun hm7 hM7 s7 => ?_)
            exact hQ hm7 _ _ hM7 (show KL u u3 A (va_up A3 0 (tldM (A 0) i j)) from kl3) (by rw [ho]; exact ⟨u9, (k3.1 10 (by decide) (by decide) (by decide) (by decide) (by decide)).trans (w10.trans g10), (k3.1 8 (by decide) (by decide) (by decide) (by decide) (by decide)).trans w8, rfl, r18, a16⟩) s7
      · try simp (disch := omega) only [E2, nI_1, nI_add, nI_leI, nI_ltI, nI_eq, nI_clamp]
        exact h67 (fun z => Classical.not_not.mp c2 |> z.2)
end MD
