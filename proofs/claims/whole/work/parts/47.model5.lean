section M5
variable {X : HM} {EV : Nat → Value} {d : Nat} {hm : HM} {hs : Nat} {Q : QT} {m n : Nat} {u : Nat → Int32} {A : Nat → Nat → Int32} {R : Nat → Int64}
theorem m_fault {k : Int32} (hM : MO hm m u A R) (hQ : ∀ hm', MO hm' m (upd u 4 0) A R → sm m (m + 16) hm hm' → Q (some (.int (if k = 0 then u 9 else if k = 1 then u 10 else -1))) hm' hs) : CC X EV (d + 1) 181 [.ref m, .int k] hm hs Q := by
  have hQ := hQ _ (hM.o _) (sm.rf.up (by omega))
  refine c_of (ls2 := [.ref m, .int k]) Y181 (Nat.le_of_ble_eq_true rfl) rfl I181 ?_
  simp (disch := first | omega | (simp only [List.length_cons, List.length_nil]; omega)) only [r_al0 dX10_fault_0, r_iconst dX10_fault_1 ki0, r_putf dX10_fault_2 F10_1, r_il1 dX10_fault_5, r_if_ne (tgt := 16) dX10_fault_6 rfl, r_al0 dX10_fault_9, r_getf dX10_fault_10 F10_76, r_goto (tgt := 29) dX10_fault_13 rfl, r_il1 dX10_fault_16, r_iconst dX10_fault_17 ki1, r_ic_ne (tgt := 28) dX10_fault_18 rfl, r_al0 dX10_fault_21, r_getf dX10_fault_22 F10_27, r_goto (tgt := 29) dX10_fault_25 rfl, r_iconst dX10_fault_28 kim1, r_iret dX10_fault_29 (Nat.zero_le _) (Nat.zero_le _), List.cons_append, List.nil_append, Nat.reduceAdd, Option.toList, fit_i, ft10_4, g10_10, g10_9, p10_4, pk_un, pk_us, rd_up_eq, rd_up_ne, true_and, up_eq, up_ne, up_up, z0, hM.r, rd_own hM.r, hM.r, rd_own hM.r]
  grind
theorem m_ring {k : Int32} {z : Nat} (hM : MO hm m u A R) (hz : u 18 = nI z) (hz12 : z ≤ 12) (hQ : ∀ hm', MO hm' m (upd u 4 0) A R → sm m (m + 16) hm hm' → Q (some (.int (if k < 0 then -3 else if k < nI z then A 16 k.toNatClampNeg else -1))) hm' hs) : CC X EV (d + 1) 207 [.ref m, .int k] hm hs Q := by
  have hQ := hQ _ (hM.o _) (sm.rf.up (by omega))
  have hM2 := hM.o (upd u 4 0)
  refine c_of (ls2 := [.ref m, .int k]) Y207 (Nat.le_of_ble_eq_true rfl) rfl I207 ?_
  simp (disch := first | omega | (simp only [List.length_cons, List.length_nil]; omega)) only [r_al0 dX10_ring_0, r_iconst dX10_ring_1 ki0, r_putf dX10_ring_2 F10_1, r_il1 dX10_ring_5, r_if_ge (tgt := 14) dX10_ring_6 rfl, r_bipush dX10_ring_9 kbm3, r_goto (tgt := 32) dX10_ring_11 rfl, r_il1 dX10_ring_14, r_al0 dX10_ring_15, r_getf dX10_ring_16 F10_218, r_ic_ge (tgt := 31) dX10_ring_19 rfl, r_al0 dX10_ring_22, r_getf dX10_ring_23 F10_36, r_il1 dX10_ring_26, r_iald dX10_ring_27, r_goto (tgt := 32) dX10_ring_28 rfl, r_iconst dX10_ring_31 kim1, r_iret dX10_ring_32 (Nat.zero_le _) (Nat.zero_le _), List.cons_append, List.nil_append, Nat.reduceAdd, Option.toList, aI_ok, fit_i, ft10_4, g10_16, g10_18, p10_4, pk_un, pk_us, rd_up_eq, rd_up_ne, true_and, up_eq, up_ne, up_up, z0, hM.r, rd_own hM.r, hM.r, rd_own hM.r, hM2.r, rd_own hM2.r, hM2.r16, rd_own hM2.r16, hz]
  refine ⟨fun h => ⟨fun h2 => ?_, fun h2 => ?_⟩, fun h => ?_⟩
  · rw [if_neg (by grind), if_neg (by grind)] at hQ; exact hQ
  · rw [if_neg (by grind), if_pos (by grind)] at hQ
    obtain ⟨i, hi, rfl⟩ := ix (k := k) (n := z) (by omega) ⟨by grind, by grind⟩
    exact ⟨vp_in_nI (by omega) (by omega), hQ⟩
  · rw [if_pos (by grind)] at hQ; exact hQ
theorem s34 {a k : Nat} : (34 : Int32) * nI a + nI k = nI (34 * a + k) := by rw [show (34 : Int32) = nI 34 from rfl, pk_mul, nI_add]
theorem s34b {k : Nat} : nI k + 34 = nI (k + 34) := by rw [show (34 : Int32) = nI 34 from rfl, nI_add]
/-- the acts once the present state is kept -/
def remA (F S : Nat → Int32) (a : Nat) : Nat → Int32 := fun j => if 34 * a ≤ j ∧ j < 34 * a + 34 then S (183 + (j - 34 * a)) else F j
def shfA (F : Nat → Int32) (k : Nat) : Nat → Int32 := fun j => if j < k then F (j + 34) else F j
theorem m_remembers {a : Nat} (hM : MO hm m u A R) (ha : u 3 = nI a) (ha12 : a ≤ 12)
    (hQ : ∀ hm', MO hm' m (upd u 3 (nI (min a 11 + 1))) (va_up A 2 (remA (if a = 12 then shfA (A 2) 374 else A 2) (A 0) (min a 11))) R → sm m (m + 16) hm hm' → Q none hm' hs) : CC X EV (d + 1) 195 [.ref m] hm hs Q := by
  have last : ∀ b, b < 12 → ∀ hm1 F u1 w, MO hm1 m u1 (va_up A 2 F) R → u1 3 = nI b → sm m (m + 16) hm hm1 → (∀ hm', MO hm' m (upd u1 3 (nI (b + 1))) (va_up A 2 (remA F (A 0) b)) R → sm m (m + 16) hm hm' → Q none hm' hs) → E1 X EV d 10 0 0 none false cX10_remembers Q 49 [.ref m, w] [] 0 0 hm1 hs := by
    intro b hb hm1 F u1 w hM1 e3 s1 hq
    simp only [r_iconst dX10_remembers_49 ki0, r_is1 dX10_remembers_50, List.cons_append, List.nil_append, Nat.reduceAdd, Option.toList, cat_f, cat_i, cat_n, cat_r, eq_self, true_and, z0]
    suffices H : ∀ k, k ≤ 34 → ∀ hm2 G, MO hm2 m u1 (va_up A 2 G) R → (∀ j, G j = if 34 * b ≤ j ∧ j < 34 * b + k then A 0 (183 + (j - 34 * b)) else F j) → sm m (m + 16) hm hm2 → E1 X EV d 10 0 0 none false cX10_remembers Q 51 [.ref m, .int (nI k)] [] 0 0 hm2 hs from
      H 0 (by omega) hm1 F hM1 (fun j => by rw [if_neg (by omega)]) s1
    refine up_loop 34 _ ?_ ?_
    · intro hm2 G hM2 hG s2
      have eG : G = remA F (A 0) b := funext hG
      rw [eG] at hM2
      simp (disch := first | omega | (simp only [List.length_cons, List.length_nil]; omega)) only [r_il1 dX10_remembers_51, r_bipush dX10_remembers_52 kb34, r_ic_ge (tgt := 87) dX10_remembers_54 rfl, r_al0 dX10_remembers_57, r_getf dX10_remembers_58 F10_20, r_bipush dX10_remembers_61 kb34, r_al0 dX10_remembers_63, r_getf dX10_remembers_64 F10_193, r_imul dX10_remembers_67, r_il1 dX10_remembers_68, r_iadd dX10_remembers_69, r_al0 dX10_remembers_70, r_getf dX10_remembers_71 F10_13, r_sipush dX10_remembers_74 ks183, r_il1 dX10_remembers_77, r_iadd dX10_remembers_78, r_iald dX10_remembers_79, r_iast dX10_remembers_80, r_ii1 dX10_remembers_81 kn1, r_gotoB (tgt := 51) dX10_remembers_84 rfl, r_al0 dX10_remembers_87, r_dup_i dX10_remembers_88, r_dup_r dX10_remembers_88, r_getf dX10_remembers_89 F10_193, r_iconst dX10_remembers_92 ki1, r_iadd dX10_remembers_93, r_putf dX10_remembers_94 F10_193, r_vret dX10_remembers_97 (Nat.zero_le _) (Nat.zero_le _), List.cons_append, List.nil_append, Nat.reduceAdd, Option.toList, aI_ok, cat_f, cat_i, cat_n, cat_r, eq_self, fit_i, ft10_3, g10_0, g10_2, g10_3, p10_3, pk_un, pk_us, rd_up_eq, rd_up_ne, sI_ok, true_and, up_eq, up_ne, up_up, z0, hM2.r, rd_own hM2.r, hM2.r, rd_own hM2.r, e3, nI_1]
      exact ⟨fun _ => hq _ (hM2.o _) (s2.up (by omega)), fun h => absurd (by decide) h⟩
    · intro k hk ih hm2 G hM2 hG s2
      have e0 : (va_up A 2 G) 0 = A 0 := rfl
      have e22 : (va_up A 2 G) 2 = G := vu_eq _ _ _
      simp (disch := first | omega | (simp only [List.length_cons, List.length_nil]; omega)) only [r_il1 dX10_remembers_51, r_bipush dX10_remembers_52 kb34, r_ic_ge (tgt := 87) dX10_remembers_54 rfl, r_al0 dX10_remembers_57, r_getf dX10_remembers_58 F10_20, r_bipush dX10_remembers_61 kb34, r_al0 dX10_remembers_63, r_getf dX10_remembers_64 F10_193, r_imul dX10_remembers_67, r_il1 dX10_remembers_68, r_iadd dX10_remembers_69, r_al0 dX10_remembers_70, r_getf dX10_remembers_71 F10_13, r_sipush dX10_remembers_74 ks183, r_il1 dX10_remembers_77, r_iadd dX10_remembers_78, r_iald dX10_remembers_79, r_iast dX10_remembers_80, r_ii1 dX10_remembers_81 kn1, r_gotoB (tgt := 51) dX10_remembers_84 rfl, r_al0 dX10_remembers_87, r_dup_i dX10_remembers_88, r_dup_r dX10_remembers_88, r_getf dX10_remembers_89 F10_193, r_iconst dX10_remembers_92 ki1, r_iadd dX10_remembers_93, r_putf dX10_remembers_94 F10_193, r_vret dX10_remembers_97 (Nat.zero_le _) (Nat.zero_le _), List.cons_append, List.nil_append, Nat.reduceAdd, Option.toList, aI_ok, cat_f, cat_i, cat_n, cat_r, eq_self, fit_i, ft10_3, g10_0, g10_2, g10_3, p10_3, pk_un, pk_us, rd_up_eq, rd_up_ne, sI_ok, true_and, up_eq, up_ne, up_up, z0, hM2.r, rd_own hM2.r, hM2.r0, rd_own hM2.r0, hM2.r2, rd_own hM2.r2, e0, e22, e3, s34, s183, nI_clamp (show 183 + k < 2 ^ 31 by omega), nI_clamp (show 34 * b + k < 2 ^ 31 by omega)]
      refine ⟨fun h => absurd ((nI_leI (a := 34) (by omega) (by omega)).mp h) (by omega), fun _ => ⟨vp_in_nI (by omega) (by omega), vp_in_nI (by omega) (by omega), ?_⟩⟩
      simp (disch := omega) only [E2, nI_1, nI_add, nI_leI, nI_ltI, nI_eq, nI_clamp]
      have h4 := hM2.w2 (upd G (34 * b + k) (A 0 (183 + k)))
      rw [va_va] at h4
      refine ih _ _ h4 (fun j => ?_) (s2.up (by omega))
      by_cases hj : j = 34 * b + k
      · rw [hj, pk_us, if_pos (by omega), show 34 * b + k - 34 * b = k by omega]
      · rw [pk_un hj, hG j]
        by_cases h5 : 34 * b ≤ j ∧ j < 34 * b + k
        · rw [if_pos h5, if_pos (by omega)]
        · rw [if_neg h5, if_neg (by omega)]
  refine c_of (ls2 := [.ref m, .null]) Y195 (Nat.le_of_ble_eq_true rfl) rfl I195 ?_
  simp only [r_al0 dX10_remembers_0, r_getf dX10_remembers_1 F10_193, r_bipush dX10_remembers_4 kb12, r_ic_neB (tgt := 49) dX10_remembers_6 rfl, r_iconst dX10_remembers_9 ki0, r_is1 dX10_remembers_10, List.cons_append, List.nil_append, Nat.reduceAdd, Option.toList, cat_f, cat_i, cat_n, cat_r, eq_self, g10_3, true_and, z0, hM.r, rd_own hM.r, hM.r, rd_own hM.r, ha]
  refine ⟨fun h => ?_, fun h => ?_⟩
  · have hne : a ≠ 12 := fun e => h (by rw [e]; rfl)
    simp (disch := omega) only [E2, nI_1, nI_add, nI_leI, nI_ltI, nI_eq, nI_clamp]
    rw [if_neg hne, show min a 11 = a by omega] at hQ
    exact last a (by omega) hm (A 2) u _ (by rw [va_self]; exact hM) ha sm.rf hQ
  · have he : a = 12 := (nI_eq (show a < 2 ^ 31 by omega) (show 12 < 2 ^ 31 by omega)).mp (Classical.not_not.mp h)
    rw [if_pos he, show min a 11 = 11 by omega] at hQ
    suffices H : ∀ k, k ≤ 374 → ∀ hm2 G, MO hm2 m u (va_up A 2 G) R → (∀ j, G j = if j < k then A 2 (j + 34) else A 2 j) → sm m (m + 16) hm hm2 → E1 X EV d 10 0 0 none false cX10_remembers Q 11 [.ref m, .int (nI k)] [] 0 0 hm2 hs from
      H 0 (by omega) hm (A 2) (by rw [va_self]; exact hM) (fun j => by rw [if_neg (by omega)]) sm.rf
    refine up_loop 374 _ ?_ ?_
    · intro hm2 G hM2 hG s2
      have eG : G = shfA (A 2) 374 := funext hG
      rw [eG] at hM2
      simp (disch := first | omega | (simp only [List.length_cons, List.length_nil]; omega)) only [r_il1 dX10_remembers_11, r_sipush dX10_remembers_12 ks374, r_ic_ge (tgt := 39) dX10_remembers_15 rfl, r_al0 dX10_remembers_18, r_getf dX10_remembers_19 F10_20, r_il1 dX10_remembers_22, r_al0 dX10_remembers_23, r_getf dX10_remembers_24 F10_20, r_il1 dX10_remembers_27, r_bipush dX10_remembers_28 kb34, r_iadd dX10_remembers_30, r_iald dX10_remembers_31, r_iast dX10_remembers_32, r_ii1 dX10_remembers_33 kn1, r_gotoB (tgt := 11) dX10_remembers_36 rfl, r_al0 dX10_remembers_39, r_dup_i dX10_remembers_40, r_dup_r dX10_remembers_40, r_getf dX10_remembers_41 F10_193, r_iconst dX10_remembers_44 ki1, r_isub dX10_remembers_45, r_putf dX10_remembers_46 F10_193, List.cons_append, List.nil_append, Nat.reduceAdd, Option.toList, aI_ok, cat_f, cat_i, cat_n, cat_r, eq_self, fit_i, ft10_3, g10_2, g10_3, p10_3, pk_un, pk_us, rd_up_eq, rd_up_ne, sI_ok, true_and, up_eq, up_ne, up_up, z0, hM2.r, rd_own hM2.r, hM2.r, rd_own hM2.r, ha, show nI a - 1 = nI 11 by rw [he]; rfl]
      refine ⟨fun _ => ?_, fun h => absurd (by decide) h⟩
      refine last 11 (by omega) _ _ (upd u 3 (nI 11)) _ (hM2.o _) pk_us (s2.up (by omega)) (fun hm' hM' s' => ?_)
      rw [upd_upd] at hM'
      exact hQ hm' hM' s'
    · intro k hk ih hm2 G hM2 hG s2
      have e22 : (va_up A 2 G) 2 = G := vu_eq _ _ _
      simp (disch := first | omega | (simp only [List.length_cons, List.length_nil]; omega)) only [r_il1 dX10_remembers_11, r_sipush dX10_remembers_12 ks374, r_ic_ge (tgt := 39) dX10_remembers_15 rfl, r_al0 dX10_remembers_18, r_getf dX10_remembers_19 F10_20, r_il1 dX10_remembers_22, r_al0 dX10_remembers_23, r_getf dX10_remembers_24 F10_20, r_il1 dX10_remembers_27, r_bipush dX10_remembers_28 kb34, r_iadd dX10_remembers_30, r_iald dX10_remembers_31, r_iast dX10_remembers_32, r_ii1 dX10_remembers_33 kn1, r_gotoB (tgt := 11) dX10_remembers_36 rfl, r_al0 dX10_remembers_39, r_dup_i dX10_remembers_40, r_dup_r dX10_remembers_40, r_getf dX10_remembers_41 F10_193, r_iconst dX10_remembers_44 ki1, r_isub dX10_remembers_45, r_putf dX10_remembers_46 F10_193, List.cons_append, List.nil_append, Nat.reduceAdd, Option.toList, aI_ok, cat_f, cat_i, cat_n, cat_r, eq_self, fit_i, ft10_3, g10_2, g10_3, p10_3, pk_un, pk_us, rd_up_eq, rd_up_ne, sI_ok, true_and, up_eq, up_ne, up_up, z0, hM2.r, rd_own hM2.r, hM2.r2, rd_own hM2.r2, e22, s34b, nI_clamp (show k < 2 ^ 31 by omega), nI_clamp (show k + 34 < 2 ^ 31 by omega)]
      refine ⟨fun h => absurd ((nI_leI (a := 374) (by omega) (by omega)).mp h) (by omega), fun _ => ⟨vp_in_nI (by omega) (by omega), vp_in_nI (by omega) (by omega), ?_⟩⟩
      simp (disch := omega) only [E2, nI_1, nI_add, nI_leI, nI_ltI, nI_eq, nI_clamp]
      have h4 := hM2.w2 (upd G k (G (k + 34)))
      rw [va_va] at h4
      refine ih _ _ h4 (fun j => ?_) (s2.up (by omega))
      by_cases hj : j = k
      · rw [hj, pk_us, if_pos (by omega), hG (k + 34), if_neg (by omega)]
      · rw [pk_un hj, hG j]
        by_cases h5 : j < k
        · rw [if_pos h5, if_pos (by omega)]
        · rw [if_neg h5, if_neg (by omega)]
end M5
