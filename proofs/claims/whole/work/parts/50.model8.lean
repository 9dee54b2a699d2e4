section M8
variable {X : HM} {EV : Nat → Value} {d : Nat} {hm : HM} {hs : Nat} {Q : QT} {m n : Nat} {u : Nat → Int32} {A : Nat → Nat → Int32} {R : Nat → Int64}
/-- the strokes of the model that lie in a cell, but for one -/
def thr (S : Nat → Int32) (L : Nat → Nat) (x y no : Int32) (n : Nat) : Int32 := acc (fun k => ¬ nI k = no ∧ ∃ i, i < L k ∧ mX S k (nI i) = x ∧ mY S k (nI i) = y) n
theorem m_topOf {x y no : Int32} {L : Nat → Nat} (hM : MO hm m u A R) (hn : A 0 2 = nI n) (hn12 : n ≤ 12) (hL : ∀ k, k < n → A 0 (7 + 4 * k + 3) = nI (L k) ∧ L k ≤ 9)
    (hQ : ∀ hm', MO hm' m (upd u 20 (thr (A 0) L x y no n)) A R → sm m (m + 16) hm hm' → Q (some (.int (fst1 (fun k => bt (thr (A 0) L x y no n) k = true ∧ thr (A 0) L x y no n &&& (A 13 k ^^^ (-1)) = sb k) n))) hm' hs) : CC X EV (d + 4) 217 [.ref m, .int x, .int y, .int no] hm hs Q := by
  refine c_of (ls2 := [.ref m, .int x, .int y, .int no, .null, .null]) Y217 (Nat.le_of_ble_eq_true rfl) rfl I217 ?_
  simp only [r_iconst dX10_topOf_0 ki0, r_is4 dX10_topOf_1, r_iconst dX10_topOf_3 ki0, r_is5 dX10_topOf_4, List.cons_append, List.nil_append, Nat.reduceAdd, Option.toList, cat_f, cat_i, cat_n, cat_r, eq_self, true_and, z0]
  refine up_loop n (fun k => E1 X EV (d + 3) 10 0 0 (some .int) false cX10_topOf Q 6 [.ref m, .int x, .int y, .int no, .int (thr (A 0) L x y no k), .int (nI k)] [] 0 0 hm hs) ?_ ?_ 0 (by omega)
  · have hM2 := hM.o (upd u 20 (thr (A 0) L x y no n))
    have hQ := hQ _ hM2 (sm.rf.up (by omega))
    simp (disch := first | omega | (simp only [List.length_cons, List.length_nil]; omega)) only [r_il5 dX10_topOf_6, r_al0 dX10_topOf_8, r_getf dX10_topOf_9 F10_13, r_iconst dX10_topOf_12 ki2, r_iald dX10_topOf_13, r_ic_ge (tgt := 53) dX10_topOf_14 rfl, r_il4 dX10_topOf_17, r_il5 dX10_topOf_19, r_il3 dX10_topOf_21, r_ic_eq (tgt := 43) dX10_topOf_22 rfl, r_al0 dX10_topOf_25, r_il5 dX10_topOf_26, r_il1 dX10_topOf_28, r_il2 dX10_topOf_29, r_iconst dX10_topOf_43 ki0, r_ior dX10_topOf_44, r_is4 dX10_topOf_45, r_ii5 dX10_topOf_47 kn1, r_gotoB (tgt := 6) dX10_topOf_50 rfl, r_al0 dX10_topOf_53, r_il4 dX10_topOf_54, r_putf dX10_topOf_56 F10_273, r_iconst dX10_topOf_59 ki0, r_is5 dX10_topOf_60, List.cons_append, List.nil_append, Nat.reduceAdd, Option.toList, aI_ok, cat_f, cat_i, cat_n, cat_r, eq_self, fit_i, ft10_20, g10_0, p10_20, pk_un, pk_us, rd_up_eq, rd_up_ne, true_and, up_eq, up_ne, up_up, z0, hM.r, rd_own hM.r, hM.r0, rd_own hM.r0, vs2, ck2, hn, true_and]
    refine ⟨fun _ => ?_, fun h => absurd (Int32.le_refl _) h⟩
    generalize thr (A 0) L x y no n = T at hM2 hQ ⊢
    generalize im_up hm m (.inr (10, fs_MO m (upd u 20 T))) = hm2 at hM2 hQ ⊢
    suffices H : ∀ k, k ≤ n → (∀ j, j < k → ¬ (bt T j = true ∧ T &&& (A 13 j ^^^ (-1)) = sb j)) → E1 X EV (d + 3) 10 0 0 (some .int) false cX10_topOf Q 62 [.ref m, .int x, .int y, .int no, .int T, .int (nI k)] [] 0 0 hm2 hs from H 0 (by omega) (fun j hj => absurd hj (Nat.not_lt_zero j))
    refine up_loop n _ ?_ ?_
    · intro hno
      simp only [r_il5 dX10_topOf_62, r_al0 dX10_topOf_64, r_getf dX10_topOf_65 F10_13, r_iconst dX10_topOf_68 ki2, r_iald dX10_topOf_69, r_ic_ge (tgt := 111) dX10_topOf_70 rfl, r_il4 dX10_topOf_73, r_il5 dX10_topOf_75, r_iconst dX10_topOf_111 kim1, r_iret dX10_topOf_112 (Nat.zero_le _) (Nat.zero_le _), List.cons_append, List.nil_append, Nat.reduceAdd, Option.toList, aI_ok, g10_0, z0, hM2.r, rd_own hM2.r, hM2.r0, rd_own hM2.r0, vs2, ck2, hn, true_and]
      rw [fst1_none hno] at hQ
      exact ⟨fun _ => hQ, fun h => absurd (Int32.le_refl _) h⟩
    · intro k hk ih hno
      simp only [r_il5 dX10_topOf_62, r_al0 dX10_topOf_64, r_getf dX10_topOf_65 F10_13, r_iconst dX10_topOf_68 ki2, r_iald dX10_topOf_69, r_ic_ge (tgt := 111) dX10_topOf_70 rfl, r_il4 dX10_topOf_73, r_il5 dX10_topOf_75, r_iconst dX10_topOf_111 kim1, r_iret dX10_topOf_112 (Nat.zero_le _) (Nat.zero_le _), List.cons_append, List.nil_append, Nat.reduceAdd, Option.toList, aI_ok, g10_0, z0, hM2.r, rd_own hM2.r, hM2.r0, rd_own hM2.r0, vs2, ck2, hn, true_and]
      refine ⟨fun h => absurd ((nI_leI (by omega) (by omega)).mp h) (by omega), fun _ => ?_⟩
      refine r_ist2 dX10_topOf_77 M10_178 Y156 (Nat.le_of_ble_eq_true rfl) (Nat.le_refl _) (Nat.le_refl _) ?_
      refine m_has (by omega) ?_
      simp only [r_if_eq (tgt := 105) dX10_topOf_80 rfl, r_il4 dX10_topOf_83, r_al0 dX10_topOf_85, r_getf dX10_topOf_86 F10_30, r_il5 dX10_topOf_89, r_iald dX10_topOf_91, r_iconst dX10_topOf_92 kim1, r_ixor dX10_topOf_93, r_iand dX10_topOf_94, r_iconst dX10_topOf_95 ki1, r_il5 dX10_topOf_96, r_ishl dX10_topOf_98, r_ic_ne (tgt := 105) dX10_topOf_99 rfl, r_il5 dX10_topOf_102, r_iret dX10_topOf_104 (Nat.zero_le _) (Nat.zero_le _), r_ii5 dX10_topOf_105 kn1, r_gotoB (tgt := 62) dX10_topOf_108 rfl, List.cons_append, List.nil_append, Nat.reduceAdd, Option.toList, aI_ok, cat_f, cat_i, cat_n, cat_r, eq_self, g10_13, true_and, z0, hM2.r, rd_own hM2.r, hM2.r13, rd_own hM2.r13, nI_clamp (show k < 2 ^ 31 by omega)]
      have nxt : ¬ (bt T k = true ∧ T &&& (A 13 k ^^^ (-1)) = sb k) → E1 X EV (d + 3) 10 0 0 (some .int) false cX10_topOf Q 62 [.ref m, .int x, .int y, .int no, .int T, .int (nI (k + 1))] [] 0 0 hm2 hs := fun hg => ih (fun j hj => by
        rcases Nat.lt_or_ge j k with h' | h'
        · exact hno j h'
        · rw [show j = k by omega]; exact hg)
      refine ⟨fun h => ?_, fun h => ⟨vp_in_nI (by omega) (by omega), fun h2 => ?_, fun h2 => ?_⟩⟩
      · simp (disch := omega) only [E2, nI_1, nI_add, nI_leI, nI_ltI, nI_eq, nI_clamp]
        exact nxt (fun z => h z.1)
      · simp (disch := omega) only [E2, nI_1, nI_add, nI_leI, nI_ltI, nI_eq, nI_clamp]
        exact nxt (fun z => h2 z.2)
      · rw [fst1_some (by omega) hk ⟨Classical.not_not.mp h, Classical.not_not.mp h2⟩ hno] at hQ
        exact hQ
  · intro k hk ih
    simp (disch := first | omega | (simp only [List.length_cons, List.length_nil]; omega)) only [r_il5 dX10_topOf_6, r_al0 dX10_topOf_8, r_getf dX10_topOf_9 F10_13, r_iconst dX10_topOf_12 ki2, r_iald dX10_topOf_13, r_ic_ge (tgt := 53) dX10_topOf_14 rfl, r_il4 dX10_topOf_17, r_il5 dX10_topOf_19, r_il3 dX10_topOf_21, r_ic_eqB (tgt := 43) dX10_topOf_22 rfl, r_al0 dX10_topOf_25, r_il5 dX10_topOf_26, r_il1 dX10_topOf_28, r_il2 dX10_topOf_29, r_al0 dX10_topOf_53, r_il4 dX10_topOf_54, r_putf dX10_topOf_56 F10_273, r_iconst dX10_topOf_59 ki0, r_is5 dX10_topOf_60, List.cons_append, List.nil_append, Nat.reduceAdd, Option.toList, aI_ok, cat_f, cat_i, cat_n, cat_r, eq_self, fit_i, ft10_20, g10_0, p10_20, pk_un, pk_us, rd_up_eq, rd_up_ne, true_and, up_eq, up_ne, up_up, z0, hM.r, rd_own hM.r, hM.r0, rd_own hM.r0, vs2, ck2, hn, true_and]
    refine ⟨fun h => absurd ((nI_leI (by omega) (by omega)).mp h) (by omega), fun _ => ?_⟩
    have no0 : ¬ (¬ nI k = no ∧ ∃ i, i < L k ∧ mX (A 0) k (nI i) = x ∧ mY (A 0) k (nI i) = y) → E1 X EV (d + 3) 10 0 0 (some .int) false cX10_topOf Q 43 [.ref m, .int x, .int y, .int no, .int (thr (A 0) L x y no k), .int (nI k)] [.int (thr (A 0) L x y no k)] 0 0 hm hs := by
      intro hg
      simp only [r_iconst dX10_topOf_43 ki0, r_ior dX10_topOf_44, r_is4 dX10_topOf_45, r_ii5 dX10_topOf_47 kn1, r_gotoB (tgt := 6) dX10_topOf_50 rfl, List.cons_append, List.nil_append, Nat.reduceAdd, Option.toList, cat_f, cat_i, cat_n, cat_r, eq_self, true_and, z0]
      simp (disch := omega) only [E2, nI_1, nI_add, nI_leI, nI_ltI, nI_eq, nI_clamp]
      unfold thr at ih ⊢
      rw [acc_f (P := fun k => ¬ nI k = no ∧ ∃ i, i < L k ∧ mX (A 0) k (nI i) = x ∧ mY (A 0) k (nI i) = y) hg] at ih
      rw [or_0]
      exact ih
    refine ⟨fun h => ?_, fun h => ?_⟩
    · simp (disch := omega) only [E2, nI_1, nI_add, nI_leI, nI_ltI, nI_eq, nI_clamp]
      exact no0 (fun z => z.1 h)
    · skip
      refine r_iv4 dX10_topOf_30 M10_205 Y186 O186 (Nat.le_of_ble_eq_true rfl) (rcv_own hM.r) (Nat.le_refl _) (Nat.le_refl _) ?_
      refine m_covers hM (by omega) (hL k hk).1 (hL k hk).2 ?_
      simp only [r_if_eqB (tgt := 43) dX10_topOf_33 rfl, r_iconst dX10_topOf_36 ki1, r_il5 dX10_topOf_37, r_ishl dX10_topOf_39, r_goto (tgt := 44) dX10_topOf_40 rfl, r_ior dX10_topOf_44, r_is4 dX10_topOf_45, r_ii5 dX10_topOf_47 kn1, r_gotoB (tgt := 6) dX10_topOf_50 rfl, List.cons_append, List.nil_append, Nat.reduceAdd, Option.toList, cat_f, cat_i, cat_n, cat_r, eq_self, true_and, z0]
      refine ⟨fun h2 => ?_, fun h2 => ?_⟩
      · simp (disch := omega) only [E2, nI_1, nI_add, nI_leI, nI_ltI, nI_eq, nI_clamp]
        exact no0 (fun z => h2 z.2)
      · simp (disch := omega) only [E2, nI_1, nI_add, nI_leI, nI_ltI, nI_eq, nI_clamp]
        unfold thr at ih ⊢
        rw [acc_t (P := fun k => ¬ nI k = no ∧ ∃ i, i < L k ∧ mX (A 0) k (nI i) = x ∧ mY (A 0) k (nI i) = y) ⟨h, Classical.not_not.mp h2⟩] at ih
        exact ih
end M8
