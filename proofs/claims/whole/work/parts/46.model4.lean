section M4
variable {X : HM} {EV : Nat → Value} {d : Nat} {hm : HM} {hs : Nat} {Q : QT} {m n : Nat} {u : Nat → Int32} {A : Nat → Nat → Int32} {R : Nat → Int64}
/-- what is over what, closed; the ways; how many of them have a stroke low -/
def clo (S o0 : Nat → Int32) (n : Nat) : Nat → Int32 := wsm n (fun k => if k < n then S (195 + k) else o0 k) n
def wyN (S o : Nat → Int32) (n : Nat) : Nat := wcn (wyP S o n) (2 ^ n)
def lwN (S o : Nat → Int32) (n k : Nat) : Nat := wcn (fun s => wyP S o n s ∧ s.testBit k = true) (2 ^ n)
theorem m_lays (hM : MO hm m u A R) (hn : A 0 2 = nI n) (hn12 : n ≤ 12)
    (hQ : ∀ hm' f, MO hm' m (upd u 15 (nI (wyN (A 0) (clo (A 0) (A 13) n) n))) (va_up (va_up A 13 (clo (A 0) (A 13) n)) 14 f) R → (∀ k, k < n → f k = nI (lwN (A 0) (clo (A 0) (A 13) n) n k)) → sm m (m + 16) hm hm' → Q none hm' hs) : CC X EV (d + 3) 191 [.ref m] hm hs Q := by
  refine c_of (ls2 := [.ref m]) Y191 (Nat.le_of_ble_eq_true rfl) rfl I191 ?_
  simp only [r_al0 dX10_lays_0, List.cons_append, List.nil_append, Nat.reduceAdd, Option.toList, z0]
  refine r_iv1 dX10_lays_1 M10_169 Y189 O189 (Nat.le_of_ble_eq_true rfl) (rcv_own hM.r) (Nat.le_refl _) (Nat.le_refl _) ?_
  refine m_laysOver hM hn hn12 (fun hm1 hM1 s1 => ?_)
  simp only [r_al0 dX10_lays_4, List.cons_append, List.nil_append, Nat.reduceAdd, Option.toList, z0]
  refine r_iv1 dX10_lays_5 M10_172 Y190 O190 (Nat.le_of_ble_eq_true rfl) (rcv_own hM1.r) (Nat.le_refl _) (Nat.le_refl _) ?_
  refine m_laysWays hM1 (n := n) hn hn12 (fun hm2 f hM2 g1 g2 s2 => ?_)
  simp only [r_pop_i dX10_lays_8, r_pop_r dX10_lays_8, r_vret dX10_lays_9 (Nat.zero_le _) (Nat.zero_le _), List.cons_append, List.nil_append, Nat.reduceAdd, Option.toList, z0]
  exact hQ hm2 f hM2 g1 (s1.trans s2)
theorem m_mustOf {k : Nat} (hM : MO hm m u A R) (hk : k < 12) (hQ : Q (some (.int (if A 14 k = u 15 then 0 else if A 14 k = 0 then 1 else 2))) hm hs) : CC X EV (d + 1) 192 [.ref m, .int (nI k)] hm hs Q := by
  have hin := vp_in_nI hk (by omega)
  refine c_of (ls2 := [.ref m, .int (nI k)]) Y192 (Nat.le_of_ble_eq_true rfl) rfl I192 ?_
  simp only [r_al0 dX10_mustOf_0, r_getf dX10_mustOf_1 F10_33, r_il1 dX10_mustOf_4, r_iald dX10_mustOf_5, r_al0 dX10_mustOf_6, r_getf dX10_mustOf_7 F10_212, r_ic_ne (tgt := 17) dX10_mustOf_10 rfl, r_iconst dX10_mustOf_13 ki0, r_goto (tgt := 31) dX10_mustOf_14 rfl, r_al0 dX10_mustOf_17, r_getf dX10_mustOf_18 F10_33, r_il1 dX10_mustOf_21, r_iald dX10_mustOf_22, r_if_ne (tgt := 30) dX10_mustOf_23 rfl, r_iconst dX10_mustOf_26 ki1, r_goto (tgt := 31) dX10_mustOf_27 rfl, r_iconst dX10_mustOf_30 ki2, r_iret dX10_mustOf_31 (Nat.zero_le _) (Nat.zero_le _), List.cons_append, List.nil_append, Nat.reduceAdd, Option.toList, aI_ok, g10_14, g10_15, z0, hM.r, rd_own hM.r, hM.r14, rd_own hM.r14, nI_clamp (show k < 2 ^ 31 by omega)]
  grind
theorem m_twos (hM : MO hm m u A R) (hn : A 0 2 = nI n) (hn12 : n ≤ 12) (hQ : Q (some (.int (sumI (fun k => pcnt (A 0 (195 + k))) n))) hm hs) : CC X EV (d + 2) 196 [.ref m] hm hs Q := by
  refine c_of (ls2 := [.ref m, .null, .null]) Y196 (Nat.le_of_ble_eq_true rfl) rfl I196 ?_
  simp only [r_iconst dX10_twos_0 ki0, r_is1 dX10_twos_1, r_iconst dX10_twos_2 ki0, r_is2 dX10_twos_3, List.cons_append, List.nil_append, Nat.reduceAdd, Option.toList, cat_f, cat_i, cat_n, cat_r, eq_self, true_and, z0]
  refine up_loop n (fun k => E1 X EV (d + 1) 10 0 0 (some .int) false cX10_twos Q 4 [.ref m, .int (sumI (fun k => pcnt (A 0 (195 + k))) k), .int (nI k)] [] 0 0 hm hs) ?_ ?_ 0 (by omega)
  · skip
    simp only [r_il2 dX10_twos_4, r_al0 dX10_twos_5, r_getf dX10_twos_6 F10_13, r_iconst dX10_twos_9 ki2, r_iald dX10_twos_10, r_ic_ge (tgt := 36) dX10_twos_11 rfl, r_il1 dX10_twos_14, r_al0 dX10_twos_15, r_getf dX10_twos_16 F10_13, r_sipush dX10_twos_19 ks195, r_il2 dX10_twos_22, r_iadd dX10_twos_23, r_iald dX10_twos_24, r_il1 dX10_twos_36, r_iret dX10_twos_37 (Nat.zero_le _) (Nat.zero_le _), List.cons_append, List.nil_append, Nat.reduceAdd, Option.toList, aI_ok, g10_0, z0, hM.r, rd_own hM.r, hM.r0, rd_own hM.r0, vs2, ck2, hn, true_and]
    exact ⟨fun _ => hQ, fun h => absurd (Int32.le_refl _) h⟩
  · intro k hk ih
    simp only [r_il2 dX10_twos_4, r_al0 dX10_twos_5, r_getf dX10_twos_6 F10_13, r_iconst dX10_twos_9 ki2, r_iald dX10_twos_10, r_ic_ge (tgt := 36) dX10_twos_11 rfl, r_il1 dX10_twos_14, r_al0 dX10_twos_15, r_getf dX10_twos_16 F10_13, r_sipush dX10_twos_19 ks195, r_il2 dX10_twos_22, r_iadd dX10_twos_23, r_iald dX10_twos_24, r_il1 dX10_twos_36, r_iret dX10_twos_37 (Nat.zero_le _) (Nat.zero_le _), List.cons_append, List.nil_append, Nat.reduceAdd, Option.toList, aI_ok, g10_0, z0, hM.r, rd_own hM.r, hM.r0, rd_own hM.r0, vs2, ck2, hn, true_and, s195]
    simp (disch := omega) only [E2, nI_1, nI_add, nI_leI, nI_ltI, nI_eq, nI_clamp]
    refine ⟨fun h => absurd h (by omega), fun _ => ⟨vp_in_nI (by omega) (by omega), ?_⟩⟩
    refine r_ist1 dX10_twos_25 M10_224 Y263 (Nat.le_of_ble_eq_true rfl) (Nat.le_refl _) (Nat.le_refl _) ?_
    refine c_bitCount ?_
    simp only [r_iadd dX10_twos_28, r_is1 dX10_twos_29, r_ii2 dX10_twos_30 kn1, r_gotoB (tgt := 4) dX10_twos_33 rfl, List.cons_append, List.nil_append, Nat.reduceAdd, Option.toList, cat_f, cat_i, cat_n, cat_r, eq_self, true_and, z0]
    simp (disch := omega) only [E2, nI_1, nI_add, nI_leI, nI_ltI, nI_eq, nI_clamp]
    exact ih
theorem m_underOf {k : Nat} (hM : MO hm m u A R) (hn : A 0 2 = nI n) (hn12 : n ≤ 12) (hk : k < 12) (hQ : Q (some (.int (acc (fun o => bt (A 13 o) k = true) n))) hm hs) : CC X EV (d + 2) 203 [.ref m, .int (nI k)] hm hs Q := by
  refine c_of (ls2 := [.ref m, .int (nI k), .null, .null]) Y203 (Nat.le_of_ble_eq_true rfl) rfl I203 ?_
  simp only [r_iconst dX10_underOf_0 ki0, r_is2 dX10_underOf_1, r_iconst dX10_underOf_2 ki0, r_is3 dX10_underOf_3, List.cons_append, List.nil_append, Nat.reduceAdd, Option.toList, cat_f, cat_i, cat_n, cat_r, eq_self, true_and, z0]
  refine up_loop n (fun o => E1 X EV (d + 1) 10 0 0 (some .int) false cX10_underOf Q 4 [.ref m, .int (nI k), .int (acc (fun o => bt (A 13 o) k = true) o), .int (nI o)] [] 0 0 hm hs) ?_ ?_ 0 (by omega)
  · skip
    simp only [r_il3 dX10_underOf_4, r_al0 dX10_underOf_5, r_getf dX10_underOf_6 F10_13, r_iconst dX10_underOf_9 ki2, r_iald dX10_underOf_10, r_ic_ge (tgt := 43) dX10_underOf_11 rfl, r_il2 dX10_underOf_14, r_al0 dX10_underOf_15, r_getf dX10_underOf_16 F10_30, r_il3 dX10_underOf_19, r_iald dX10_underOf_20, r_il1 dX10_underOf_21, r_il2 dX10_underOf_43, r_iret dX10_underOf_44 (Nat.zero_le _) (Nat.zero_le _), List.cons_append, List.nil_append, Nat.reduceAdd, Option.toList, aI_ok, g10_0, g10_13, z0, hM.r, rd_own hM.r, hM.r0, rd_own hM.r0, vs2, ck2, hn, true_and]
    exact ⟨fun _ => hQ, fun h => absurd (Int32.le_refl _) h⟩
  · intro o ho ih
    simp only [r_il3 dX10_underOf_4, r_al0 dX10_underOf_5, r_getf dX10_underOf_6 F10_13, r_iconst dX10_underOf_9 ki2, r_iald dX10_underOf_10, r_ic_ge (tgt := 43) dX10_underOf_11 rfl, r_il2 dX10_underOf_14, r_al0 dX10_underOf_15, r_getf dX10_underOf_16 F10_30, r_il3 dX10_underOf_19, r_iald dX10_underOf_20, r_il1 dX10_underOf_21, r_il2 dX10_underOf_43, r_iret dX10_underOf_44 (Nat.zero_le _) (Nat.zero_le _), List.cons_append, List.nil_append, Nat.reduceAdd, Option.toList, aI_ok, g10_0, g10_13, z0, hM.r, rd_own hM.r, hM.r0, rd_own hM.r0, hM.r13, rd_own hM.r13, vs2, ck2, hn, true_and]
    simp (disch := omega) only [E2, nI_1, nI_add, nI_leI, nI_ltI, nI_eq, nI_clamp]
    refine ⟨fun h => absurd h (by omega), fun _ => ⟨vp_in_nI (by omega) (by omega), ?_⟩⟩
    refine r_ist2 dX10_underOf_22 M10_178 Y156 (Nat.le_of_ble_eq_true rfl) (Nat.le_refl _) (Nat.le_refl _) ?_
    refine m_has (by omega) ?_
    simp only [r_if_eq (tgt := 34) dX10_underOf_25 rfl, r_iconst dX10_underOf_28 ki1, r_il3 dX10_underOf_29, r_ishl dX10_underOf_30, r_goto (tgt := 35) dX10_underOf_31 rfl, r_iconst dX10_underOf_34 ki0, r_ior dX10_underOf_35, r_is2 dX10_underOf_36, r_ii3 dX10_underOf_37 kn1, r_gotoB (tgt := 4) dX10_underOf_40 rfl, List.cons_append, List.nil_append, Nat.reduceAdd, Option.toList, cat_f, cat_i, cat_n, cat_r, eq_self, true_and, z0]
    refine ⟨fun h => ?_, fun h => ?_⟩
    · simp (disch := omega) only [E2, nI_1, nI_add, nI_leI, nI_ltI, nI_eq, nI_clamp]
      rw [acc_f h] at ih
      rw [show ∀ x : Int32, x ||| 0 = x from fun x => by apply b_ext; intro i hi; rw [b_or, b_0, Bool.or_false]]
      exact ih
    · simp (disch := omega) only [E2, nI_1, nI_add, nI_leI, nI_ltI, nI_eq, nI_clamp]
      rw [acc_t (Classical.not_not.mp h)] at ih
      exact ih
theorem or_0 (x : Int32) : x ||| 0 = x := by apply b_ext; intro i hi; rw [b_or, b_0, Bool.or_false]
/-- the first common cell of two strokes of the model; none -/
def cmn (S : Nat → Int32) (L : Nat → Nat) (a b : Nat) : Int32 := fstv (fun i => ∃ j, j < L b ∧ mX S b (nI j) = mX S a (nI i) ∧ mY S b (nI j) = mY S a (nI i)) (fun i => 100 * mY S a (nI i) + mX S a (nI i)) (L a)
theorem m_crossings {k : Nat} {L : Nat → Nat} (hM : MO hm m u A R) (hn : A 0 2 = nI n) (hn12 : n ≤ 12) (hk : k < n) (hL : ∀ k, k < n → A 0 (7 + 4 * k + 3) = nI (L k) ∧ L k ≤ 9) (hQ : Q (some (.int (acc (fun o => k ≠ o ∧ cmn (A 0) L k o ≠ -1) n))) hm hs) : CC X EV (d + 6) 202 [.ref m, .int (nI k)] hm hs Q := by
  refine c_of (ls2 := [.ref m, .int (nI k), .null, .null]) Y202 (Nat.le_of_ble_eq_true rfl) rfl I202 ?_
  simp only [r_iconst dX10_crossings_0 ki0, r_is2 dX10_crossings_1, r_iconst dX10_crossings_2 ki0, r_is3 dX10_crossings_3, List.cons_append, List.nil_append, Nat.reduceAdd, Option.toList, cat_f, cat_i, cat_n, cat_r, eq_self, true_and, z0]
  refine up_loop n (fun o => E1 X EV (d + 5) 10 0 0 (some .int) false cX10_crossings Q 4 [.ref m, .int (nI k), .int (acc (fun o => k ≠ o ∧ cmn (A 0) L k o ≠ -1) o), .int (nI o)] [] 0 0 hm hs) ?_ ?_ 0 (by omega)
  · skip
    simp only [r_il3 dX10_crossings_4, r_al0 dX10_crossings_5, r_getf dX10_crossings_6 F10_13, r_iconst dX10_crossings_9 ki2, r_iald dX10_crossings_10, r_ic_ge (tgt := 39) dX10_crossings_11 rfl, r_il2 dX10_crossings_14, r_al0 dX10_crossings_15, r_il1 dX10_crossings_16, r_il3 dX10_crossings_17, r_il2 dX10_crossings_39, r_iret dX10_crossings_40 (Nat.zero_le _) (Nat.zero_le _), List.cons_append, List.nil_append, Nat.reduceAdd, Option.toList, aI_ok, g10_0, z0, hM.r, rd_own hM.r, hM.r0, rd_own hM.r0, vs2, ck2, hn, true_and]
    exact ⟨fun _ => hQ, fun h => absurd (Int32.le_refl _) h⟩
  · intro o ho ih
    simp only [r_il3 dX10_crossings_4, r_al0 dX10_crossings_5, r_getf dX10_crossings_6 F10_13, r_iconst dX10_crossings_9 ki2, r_iald dX10_crossings_10, r_ic_ge (tgt := 39) dX10_crossings_11 rfl, r_il2 dX10_crossings_14, r_al0 dX10_crossings_15, r_il1 dX10_crossings_16, r_il3 dX10_crossings_17, r_il2 dX10_crossings_39, r_iret dX10_crossings_40 (Nat.zero_le _) (Nat.zero_le _), List.cons_append, List.nil_append, Nat.reduceAdd, Option.toList, aI_ok, g10_0, z0, hM.r, rd_own hM.r, hM.r0, rd_own hM.r0, vs2, ck2, hn, true_and]
    refine ⟨fun h => absurd ((nI_leI (by omega) (by omega)).mp h) (by omega), fun _ => ?_⟩
    refine r_iv3 dX10_crossings_18 M10_175 Y188 O188 (Nat.le_of_ble_eq_true rfl) (rcv_own hM.r) (Nat.le_refl _) (Nat.le_refl _) ?_
    refine m_cross hM (by omega) (by omega) (hL k hk).1 (hL k hk).2 (hL o ho).1 (hL o ho).2 ?_
    simp only [r_if_eq (tgt := 30) dX10_crossings_21 rfl, r_iconst dX10_crossings_24 ki1, r_il3 dX10_crossings_25, r_ishl dX10_crossings_26, r_goto (tgt := 31) dX10_crossings_27 rfl, r_iconst dX10_crossings_30 ki0, r_ior dX10_crossings_31, r_is2 dX10_crossings_32, r_ii3 dX10_crossings_33 kn1, r_gotoB (tgt := 4) dX10_crossings_36 rfl, List.cons_append, List.nil_append, Nat.reduceAdd, Option.toList, cat_f, cat_i, cat_n, cat_r, eq_self, true_and, z0]
    refine ⟨fun h => ?_, fun h => ?_⟩
    · simp (disch := omega) only [E2, nI_1, nI_add, nI_leI, nI_ltI, nI_eq, nI_clamp]
      rw [acc_f (P := fun o => k ≠ o ∧ cmn (A 0) L k o ≠ -1) h] at ih
      rw [or_0]
      exact ih
    · simp (disch := omega) only [E2, nI_1, nI_add, nI_leI, nI_ltI, nI_eq, nI_clamp]
      rw [acc_t (P := fun o => k ≠ o ∧ cmn (A 0) L k o ≠ -1) (Classical.not_not.mp h)] at ih
      exact ih
end M4
