section M2
variable {X : HM} {EV : Nat → Value} {d : Nat} {hm : HM} {hs : Nat} {Q : QT} {m n : Nat} {u : Nat → Int32} {A : Nat → Nat → Int32} {R : Nat → Int64}
def wsk (mm : Nat) (o : Nat → Int32) : Nat → (Nat → Int32)
  | 0 => o
  | k + 1 => if bt (wsk mm o k k) mm = true then upd (wsk mm o k) k (wsk mm o k k ||| wsk mm o k mm) else wsk mm o k
def wsm (n : Nat) (o : Nat → Int32) : Nat → (Nat → Int32)
  | 0 => o
  | mm + 1 => wsk mm (wsm n o mm) n
theorem m_commonOf {a b la lb : Nat} (hM : MO hm m u A R) (ha : a < 12) (hb : b < 12) (hla : A 0 (7 + 4 * a + 3) = nI la) (hla9 : la ≤ 9) (hlb : A 0 (7 + 4 * b + 3) = nI lb) (hlb9 : lb ≤ 9)
    (hQ : Q (some (.int (fstv (fun i => ∃ j, j < lb ∧ mX (A 0) b (nI j) = mX (A 0) a (nI i) ∧ mY (A 0) b (nI j) = mY (A 0) a (nI i)) (fun i => 100 * mY (A 0) a (nI i) + mX (A 0) a (nI i)) la))) hm hs) : CC X EV (d + 4) 187 [.ref m, .int (nI a), .int (nI b)] hm hs Q := by
  refine c_of (ls2 := [.ref m, .int (nI a), .int (nI b), .null]) Y187 (Nat.le_of_ble_eq_true rfl) rfl I187 ?_
  simp only [r_iconst dX10_commonOf_0 ki0, r_is3 dX10_commonOf_1, List.cons_append, List.nil_append, Nat.reduceAdd, Option.toList, cat_f, cat_i, cat_n, cat_r, eq_self, true_and, z0]
  suffices H : ∀ i, i ≤ la → (∀ k, k < i → ¬ ∃ j, j < lb ∧ mX (A 0) b (nI j) = mX (A 0) a (nI k) ∧ mY (A 0) b (nI j) = mY (A 0) a (nI k)) → E1 X EV (d + 3) 10 0 0 (some .int) false cX10_commonOf Q 2 [.ref m, .int (nI a), .int (nI b), .int (nI i)] [] 0 0 hm hs from H 0 (by omega) (fun j hj => absurd hj (Nat.not_lt_zero j))
  refine up_loop la _ ?_ ?_
  · intro hno
    simp only [r_il3 dX10_commonOf_2, r_al0 dX10_commonOf_3, r_il1 dX10_commonOf_4, List.cons_append, List.nil_append, Nat.reduceAdd, Option.toList, z0]
    refine r_iv2 dX10_commonOf_5 M10_196 Y185 O185 (Nat.le_of_ble_eq_true rfl) (rcv_own hM.r) (Nat.le_refl _) (Nat.le_refl _) ?_
    refine m_longOf hM ha ?_
    rw [hla]
    simp only [r_ic_ge (tgt := 54) dX10_commonOf_8 rfl, r_al0 dX10_commonOf_11, r_il2 dX10_commonOf_12, r_al0 dX10_commonOf_13, r_il1 dX10_commonOf_14, r_il3 dX10_commonOf_15, r_iconst dX10_commonOf_54 kim1, r_iret dX10_commonOf_55 (Nat.zero_le _) (Nat.zero_le _), List.cons_append, List.nil_append, Nat.reduceAdd, Option.toList, z0]
    rw [fstv_none hno] at hQ
    exact ⟨fun _ => hQ, fun h => absurd (Int32.le_refl _) h⟩
  · intro i hi ih hno
    simp only [r_il3 dX10_commonOf_2, r_al0 dX10_commonOf_3, r_il1 dX10_commonOf_4, List.cons_append, List.nil_append, Nat.reduceAdd, Option.toList, z0]
    refine r_iv2 dX10_commonOf_5 M10_196 Y185 O185 (Nat.le_of_ble_eq_true rfl) (rcv_own hM.r) (Nat.le_refl _) (Nat.le_refl _) ?_
    refine m_longOf hM ha ?_
    rw [hla]
    simp only [r_ic_ge (tgt := 54) dX10_commonOf_8 rfl, r_al0 dX10_commonOf_11, r_il2 dX10_commonOf_12, r_al0 dX10_commonOf_13, r_il1 dX10_commonOf_14, r_il3 dX10_commonOf_15, r_iconst dX10_commonOf_54 kim1, r_iret dX10_commonOf_55 (Nat.zero_le _) (Nat.zero_le _), List.cons_append, List.nil_append, Nat.reduceAdd, Option.toList, z0]
    refine ⟨fun h => absurd ((nI_leI (by omega) (by omega)).mp h) (by omega), fun _ => ?_⟩
    refine r_iv3 dX10_commonOf_16 M10_199 Y183 O183 (Nat.le_of_ble_eq_true rfl) (rcv_own hM.r) (Nat.le_refl _) (Nat.le_refl _) ?_
    refine m_xOf hM ha ?_
    simp only [r_al0 dX10_commonOf_19, r_il1 dX10_commonOf_20, r_il3 dX10_commonOf_21, List.cons_append, List.nil_append, Nat.reduceAdd, Option.toList, z0]
    refine r_iv3 dX10_commonOf_22 M10_202 Y184 O184 (Nat.le_of_ble_eq_true rfl) (rcv_own hM.r) (Nat.le_refl _) (Nat.le_refl _) ?_
    refine m_yOf hM ha ?_
    simp only [List.cons_append, List.nil_append, Nat.reduceAdd, Option.toList, z0]
    refine r_iv4 dX10_commonOf_25 M10_205 Y186 O186 (Nat.le_of_ble_eq_true rfl) (rcv_own hM.r) (Nat.le_refl _) (Nat.le_refl _) ?_
    refine m_covers hM hb hlb hlb9 ?_
    simp only [r_if_eq (tgt := 48) dX10_commonOf_28 rfl, r_bipush dX10_commonOf_31 kb100, r_al0 dX10_commonOf_33, r_il1 dX10_commonOf_34, r_il3 dX10_commonOf_35, r_ii3 dX10_commonOf_48 kn1, r_gotoB (tgt := 2) dX10_commonOf_51 rfl, List.cons_append, List.nil_append, Nat.reduceAdd, Option.toList, cat_f, cat_i, cat_n, cat_r, eq_self, true_and, z0]
    refine ⟨fun h => ?_, fun h => ?_⟩
    · simp (disch := omega) only [E2, nI_1, nI_add, nI_leI, nI_ltI, nI_eq, nI_clamp]
      exact ih (fun k hk => by
        rcases Nat.lt_or_ge k i with h' | h'
        · exact hno k h'
        · rw [show k = i by omega]; exact h)
    · skip
      refine r_iv3 dX10_commonOf_36 M10_202 Y184 O184 (Nat.le_of_ble_eq_true rfl) (rcv_own hM.r) (Nat.le_refl _) (Nat.le_refl _) ?_
      refine m_yOf hM ha ?_
      simp only [r_imul dX10_commonOf_39, r_al0 dX10_commonOf_40, r_il1 dX10_commonOf_41, r_il3 dX10_commonOf_42, List.cons_append, List.nil_append, Nat.reduceAdd, Option.toList, z0]
      refine r_iv3 dX10_commonOf_43 M10_199 Y183 O183 (Nat.le_of_ble_eq_true rfl) (rcv_own hM.r) (Nat.le_refl _) (Nat.le_refl _) ?_
      refine m_xOf hM ha ?_
      simp only [r_iadd dX10_commonOf_46, r_iret dX10_commonOf_47 (Nat.zero_le _) (Nat.zero_le _), List.cons_append, List.nil_append, Nat.reduceAdd, Option.toList, z0]
      rw [fstv_some hi (Classical.not_not.mp h) hno] at hQ
      exact hQ
theorem m_cross {a b la lb : Nat} (hM : MO hm m u A R) (ha : a < 12) (hb : b < 12) (hla : A 0 (7 + 4 * a + 3) = nI la) (hla9 : la ≤ 9) (hlb : A 0 (7 + 4 * b + 3) = nI lb) (hlb9 : lb ≤ 9)
    (hQ : Q (some (.int (if a ≠ b ∧ fstv (fun i => ∃ j, j < lb ∧ mX (A 0) b (nI j) = mX (A 0) a (nI i) ∧ mY (A 0) b (nI j) = mY (A 0) a (nI i)) (fun i => 100 * mY (A 0) a (nI i) + mX (A 0) a (nI i)) la ≠ -1 then 1 else 0))) hm hs) : CC X EV (d + 5) 188 [.ref m, .int (nI a), .int (nI b)] hm hs Q := by
  have hQ := zq hQ
  refine c_of (ls2 := [.ref m, .int (nI a), .int (nI b)]) Y188 (Nat.le_of_ble_eq_true rfl) rfl I188 ?_
  simp only [r_il1 dX10_cross_0, r_il2 dX10_cross_1, r_ic_eq (tgt := 19) dX10_cross_2 rfl, r_al0 dX10_cross_5, r_il1 dX10_cross_6, r_il2 dX10_cross_7, r_iconst dX10_cross_19 ki0, r_zret0 dX10_cross_20 (Nat.zero_le _) (Nat.zero_le _), r_zret1 dX10_cross_20 (Nat.zero_le _) (Nat.zero_le _), r_zretc dX10_cross_20 (Nat.zero_le _) (Nat.zero_le _), List.cons_append, List.nil_append, Nat.reduceAdd, Option.toList, z0]
  simp (disch := omega) only [E2, nI_1, nI_add, nI_leI, nI_ltI, nI_eq, nI_clamp]
  refine ⟨fun h => hQ.2 (fun z => z.1 h), fun h => ?_⟩
  refine r_iv3 dX10_cross_8 M10_209 Y187 O187 (Nat.le_of_ble_eq_true rfl) (rcv_own hM.r) (Nat.le_refl _) (Nat.le_refl _) ?_
  refine m_commonOf hM ha hb hla hla9 hlb hlb9 ?_
  simp only [r_iconst dX10_cross_11 kim1, r_ic_eq (tgt := 19) dX10_cross_12 rfl, r_iconst dX10_cross_15 ki1, r_goto (tgt := 20) dX10_cross_16 rfl, r_iconst dX10_cross_19 ki0, r_zret0 dX10_cross_20 (Nat.zero_le _) (Nat.zero_le _), r_zret1 dX10_cross_20 (Nat.zero_le _) (Nat.zero_le _), r_zretc dX10_cross_20 (Nat.zero_le _) (Nat.zero_le _), List.cons_append, List.nil_append, Nat.reduceAdd, Option.toList, z0]
  exact ⟨fun h2 => hQ.2 (fun z => z.2 h2), fun h2 => hQ.1 ⟨h, h2⟩⟩
theorem s195 {k : Nat} : (195 : Int32) + nI k = nI (195 + k) := by rw [show (195 : Int32) = nI 195 from rfl, nI_add]
theorem m_laysOver (hM : MO hm m u A R) (hn : A 0 2 = nI n) (hn12 : n ≤ 12)
    (hQ : ∀ hm', MO hm' m u (va_up A 13 (wsm n (fun k => if k < n then A 0 (195 + k) else A 13 k) n)) R → sm m (m + 16) hm hm' → Q none hm' hs) : CC X EV (d + 2) 189 [.ref m] hm hs Q := by
  refine c_of (ls2 := [.ref m, .null, .null]) Y189 (Nat.le_of_ble_eq_true rfl) rfl I189 ?_
  simp only [r_iconst dX10_laysOver_0 ki0, r_is1 dX10_laysOver_1, List.cons_append, List.nil_append, Nat.reduceAdd, Option.toList, cat_f, cat_i, cat_n, cat_r, eq_self, true_and, z0]
  suffices H : ∀ k, k ≤ n → ∀ hm' f, MO hm' m u (va_up A 13 f) R → (∀ j, f j = if j < k then A 0 (195 + j) else A 13 j) → sm m (m + 16) hm hm' → E1 X EV (d + 1) 10 0 0 none false cX10_laysOver Q 2 [.ref m, .int (nI k), .null] [] 0 0 hm' hs from
    H 0 (by omega) hm (A 13) (by rw [va_self]; exact hM) (fun j => by rw [if_neg (by omega)]) sm.rf
  refine up_loop n _ ?_ ?_
  · intro hm' f hM' hf hs'
    have e2 : (va_up A 13 f) 0 2 = nI n := hn
    simp (disch := first | omega | (simp only [List.length_cons, List.length_nil]; omega)) only [r_il1 dX10_laysOver_2, r_al0 dX10_laysOver_3, r_getf dX10_laysOver_4 F10_13, r_iconst dX10_laysOver_7 ki2, r_iald dX10_laysOver_8, r_ic_ge (tgt := 34) dX10_laysOver_9 rfl, r_al0 dX10_laysOver_12, r_getf dX10_laysOver_13 F10_30, r_il1 dX10_laysOver_16, r_al0 dX10_laysOver_17, r_getf dX10_laysOver_18 F10_13, r_sipush dX10_laysOver_21 ks195, r_il1 dX10_laysOver_24, r_iadd dX10_laysOver_25, r_iald dX10_laysOver_26, r_iast dX10_laysOver_27, r_ii1 dX10_laysOver_28 kn1, r_gotoB (tgt := 2) dX10_laysOver_31 rfl, r_iconst dX10_laysOver_34 ki0, r_is1 dX10_laysOver_35, List.cons_append, List.nil_append, Nat.reduceAdd, Option.toList, aI_ok, cat_f, cat_i, cat_n, cat_r, eq_self, g10_0, g10_13, pk_un, pk_us, rd_up_eq, rd_up_ne, sI_ok, true_and, up_eq, up_ne, up_up, z0, hM'.r, rd_own hM'.r, hM'.r0, rd_own hM'.r0, vs2, ck2, e2, true_and]
    refine ⟨fun _ => ?_, fun h => absurd (Int32.le_refl _) h⟩
    have ef : f = fun j => if j < n then A 0 (195 + j) else A 13 j := funext hf
    rw [← ef] at hQ
    suffices H : ∀ mm, mm ≤ n → ∀ w hm', MO hm' m u (va_up A 13 (wsm n f mm)) R → sm m (m + 16) hm hm' → E1 X EV (d + 1) 10 0 0 none false cX10_laysOver Q 36 [.ref m, .int (nI mm), w] [] 0 0 hm' hs from H 0 (by omega) _ hm' hM' hs'
    refine up_loop n _ ?_ ?_
    · intro w hm2 hM2 hs2
      have e2 : (va_up A 13 (wsm n f n)) 0 2 = nI n := hn
      simp only [r_il1 dX10_laysOver_36, r_al0 dX10_laysOver_37, r_getf dX10_laysOver_38 F10_13, r_iconst dX10_laysOver_41 ki2, r_iald dX10_laysOver_42, r_ic_ge (tgt := 98) dX10_laysOver_43 rfl, r_iconst dX10_laysOver_46 ki0, r_is2 dX10_laysOver_47, r_vret dX10_laysOver_98 (Nat.zero_le _) (Nat.zero_le _), List.cons_append, List.nil_append, Nat.reduceAdd, Option.toList, aI_ok, cat_f, cat_i, cat_n, cat_r, eq_self, g10_0, true_and, z0, hM2.r, rd_own hM2.r, hM2.r0, rd_own hM2.r0, vs2, ck2, e2, true_and]
      exact ⟨fun _ => hQ hm2 hM2 hs2, fun h => absurd (Int32.le_refl _) h⟩
    · intro mm hmm ih w hm2 hM2 hs2
      have e2 : (va_up A 13 (wsm n f mm)) 0 2 = nI n := hn
      simp only [r_il1 dX10_laysOver_36, r_al0 dX10_laysOver_37, r_getf dX10_laysOver_38 F10_13, r_iconst dX10_laysOver_41 ki2, r_iald dX10_laysOver_42, r_ic_ge (tgt := 98) dX10_laysOver_43 rfl, r_iconst dX10_laysOver_46 ki0, r_is2 dX10_laysOver_47, r_vret dX10_laysOver_98 (Nat.zero_le _) (Nat.zero_le _), List.cons_append, List.nil_append, Nat.reduceAdd, Option.toList, aI_ok, cat_f, cat_i, cat_n, cat_r, eq_self, g10_0, true_and, z0, hM2.r, rd_own hM2.r, hM2.r0, rd_own hM2.r0, vs2, ck2, e2, true_and]
      refine ⟨fun h => absurd ((nI_leI (by omega) (by omega)).mp h) (by omega), fun _ => ?_⟩
      suffices H : ∀ k, k ≤ n → ∀ hm3, MO hm3 m u (va_up A 13 (wsk mm (wsm n f mm) k)) R → sm m (m + 16) hm hm3 → E1 X EV (d + 1) 10 0 0 none false cX10_laysOver Q 48 [.ref m, .int (nI mm), .int (nI k)] [] 0 0 hm3 hs from H 0 (by omega) hm2 hM2 hs2
      refine up_loop n _ ?_ ?_
      · intro hm3 hM3 hs3
        have e2 : (va_up A 13 (wsk mm (wsm n f mm) n)) 0 2 = nI n := hn
        simp only [r_il2 dX10_laysOver_48, r_al0 dX10_laysOver_49, r_getf dX10_laysOver_50 F10_13, r_iconst dX10_laysOver_53 ki2, r_iald dX10_laysOver_54, r_ic_ge (tgt := 92) dX10_laysOver_55 rfl, r_al0 dX10_laysOver_58, r_getf dX10_laysOver_59 F10_30, r_il2 dX10_laysOver_62, r_iald dX10_laysOver_63, r_il1 dX10_laysOver_64, r_ii1 dX10_laysOver_92 kn1, r_gotoB (tgt := 36) dX10_laysOver_95 rfl, List.cons_append, List.nil_append, Nat.reduceAdd, Option.toList, aI_ok, cat_f, cat_i, cat_n, cat_r, eq_self, g10_0, g10_13, true_and, z0, hM3.r, rd_own hM3.r, hM3.r0, rd_own hM3.r0, vs2, ck2, e2, true_and]
        simp (disch := omega) only [E2, nI_1, nI_add, nI_leI, nI_ltI, nI_eq, nI_clamp]
        exact ⟨fun _ => ih _ hm3 hM3 hs3, fun h => absurd (Nat.le_refl _) h⟩
      · intro k hk ih2 hm3 hM3 hs3
        have e2 : (va_up A 13 (wsk mm (wsm n f mm) k)) 0 2 = nI n := hn
        have e13 : (va_up A 13 (wsk mm (wsm n f mm) k)) 13 = wsk mm (wsm n f mm) k := vu_eq _ _ _
        rw [wsk] at ih2
        generalize wsk mm (wsm n f mm) k = o at ih2 hM3 e2 e13 ⊢
        simp only [r_il2 dX10_laysOver_48, r_al0 dX10_laysOver_49, r_getf dX10_laysOver_50 F10_13, r_iconst dX10_laysOver_53 ki2, r_iald dX10_laysOver_54, r_ic_ge (tgt := 92) dX10_laysOver_55 rfl, r_al0 dX10_laysOver_58, r_getf dX10_laysOver_59 F10_30, r_il2 dX10_laysOver_62, r_iald dX10_laysOver_63, r_il1 dX10_laysOver_64, r_ii1 dX10_laysOver_92 kn1, r_gotoB (tgt := 36) dX10_laysOver_95 rfl, List.cons_append, List.nil_append, Nat.reduceAdd, Option.toList, aI_ok, cat_f, cat_i, cat_n, cat_r, eq_self, g10_0, g10_13, true_and, z0, hM3.r, rd_own hM3.r, hM3.r0, rd_own hM3.r0, hM3.r13, rd_own hM3.r13, vs2, ck2, e2, e13, true_and]
        simp (disch := omega) only [E2, nI_1, nI_add, nI_leI, nI_ltI, nI_eq, nI_clamp]
        refine ⟨fun h => absurd h (by omega), fun _ => ⟨vp_in_nI (by omega) (by omega), ?_⟩⟩
        refine r_ist2 dX10_laysOver_65 M10_178 Y156 (Nat.le_of_ble_eq_true rfl) (Nat.le_refl _) (Nat.le_refl _) ?_
        refine m_has (by omega) ?_
        simp (disch := first | omega | (simp only [List.length_cons, List.length_nil]; omega)) only [r_if_eq (tgt := 86) dX10_laysOver_68 rfl, r_al0 dX10_laysOver_71, r_getf dX10_laysOver_72 F10_30, r_il2 dX10_laysOver_75, r_dup2_ir dX10_laysOver_76, r_dup2_l dX10_laysOver_76, r_iald dX10_laysOver_77, r_al0 dX10_laysOver_78, r_getf dX10_laysOver_79 F10_30, r_il1 dX10_laysOver_82, r_iald dX10_laysOver_83, r_ior dX10_laysOver_84, r_iast dX10_laysOver_85, r_ii2 dX10_laysOver_86 kn1, r_gotoB (tgt := 48) dX10_laysOver_89 rfl, List.cons_append, List.nil_append, Nat.reduceAdd, Option.toList, aI_ok, cat_f, cat_i, cat_n, cat_r, eq_self, g10_13, pk_un, pk_us, rd_up_eq, rd_up_ne, sI_ok, true_and, up_eq, up_ne, up_up, z0, hM3.r, rd_own hM3.r, hM3.r0, rd_own hM3.r0, hM3.r13, rd_own hM3.r13, e13, nI_clamp (show k < 2 ^ 31 by omega), nI_clamp (show mm < 2 ^ 31 by omega)]
        refine ⟨fun h => ?_, fun h => ⟨vp_in_nI (by omega) (by omega), vp_in_nI (by omega) (by omega), vp_in_nI (by omega) (by omega), ?_⟩⟩
        · simp (disch := omega) only [E2, nI_1, nI_add, nI_leI, nI_ltI, nI_eq, nI_clamp]
          rw [if_neg h] at ih2
          exact ih2 hm3 hM3 hs3
        · simp (disch := omega) only [E2, nI_1, nI_add, nI_leI, nI_ltI, nI_eq, nI_clamp]
          rw [if_pos (Classical.not_not.mp h)] at ih2
          have h4 := hM3.w13 (upd o k (o k ||| o mm))
          rw [va_va] at h4
          exact ih2 _ h4 (hs3.up (by omega))
  · intro k hk ih hm' f hM' hf hs'
    have e2 : (va_up A 13 f) 0 2 = nI n := hn
    have e0 : (va_up A 13 f) 0 = A 0 := rfl
    have e13 : (va_up A 13 f) 13 = f := vu_eq _ _ _
    simp (disch := first | omega | (simp only [List.length_cons, List.length_nil]; omega)) only [r_il1 dX10_laysOver_2, r_al0 dX10_laysOver_3, r_getf dX10_laysOver_4 F10_13, r_iconst dX10_laysOver_7 ki2, r_iald dX10_laysOver_8, r_ic_ge (tgt := 34) dX10_laysOver_9 rfl, r_al0 dX10_laysOver_12, r_getf dX10_laysOver_13 F10_30, r_il1 dX10_laysOver_16, r_al0 dX10_laysOver_17, r_getf dX10_laysOver_18 F10_13, r_sipush dX10_laysOver_21 ks195, r_il1 dX10_laysOver_24, r_iadd dX10_laysOver_25, r_iald dX10_laysOver_26, r_iast dX10_laysOver_27, r_ii1 dX10_laysOver_28 kn1, r_gotoB (tgt := 2) dX10_laysOver_31 rfl, r_iconst dX10_laysOver_34 ki0, r_is1 dX10_laysOver_35, List.cons_append, List.nil_append, Nat.reduceAdd, Option.toList, aI_ok, cat_f, cat_i, cat_n, cat_r, eq_self, g10_0, g10_13, pk_un, pk_us, rd_up_eq, rd_up_ne, sI_ok, true_and, up_eq, up_ne, up_up, z0, hM'.r, rd_own hM'.r, hM'.r0, rd_own hM'.r0, hM'.r13, rd_own hM'.r13, vs2, ck2, e2, e0, e13, hn, true_and, s195]
    simp (disch := omega) only [E2, nI_1, nI_add, nI_leI, nI_ltI, nI_eq, nI_clamp]
    refine ⟨fun h => absurd h (by omega), fun _ => ⟨vp_in_nI (by omega) (by omega), vp_in_nI (by omega) (by omega), ?_⟩⟩
    have h4 := hM'.w13 (upd f k (A 0 (195 + k)))
    rw [va_va] at h4
    refine ih _ _ h4 (fun j => ?_) (hs'.up (by omega))
    by_cases hj : j = k
    · rw [hj, pk_us, if_pos (by omega)]
    · rw [pk_un hj, hf j]
      by_cases h5 : j < k
      · rw [if_pos h5, if_pos (by omega)]
      · rw [if_neg h5, if_neg (by omega)]
end M2
