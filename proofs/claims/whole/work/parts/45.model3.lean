theorem shl_eq {n : Nat} (hn : n ≤ 12) : (1 : Int32) <<< (nI n &&& 31) = nI (2 ^ n) := by
  have : ∀ n, n < 13 → (1 : Int32) <<< (nI n &&& 31) = nI (2 ^ n) := by decide +kernel
  exact this n (by omega)
theorem s183 {k : Nat} : (183 : Int32) + nI k = nI (183 + k) := by rw [show (183 : Int32) = nI 183 from rfl, nI_add]
/-- the strokes of a set can be the lower ones -/
abbrev wyP (S o : Nat → Int32) (n set : Nat) : Prop := ∀ k, k < n → (if set.testBit k = true then ¬ S (183 + k) = 2 ∧ o k &&& (nI set ^^^ (-1)) = 0 else ¬ S (183 + k) = 1)
section M3
variable {X : HM} {EV : Nat → Value} {d : Nat} {hm : HM} {hs : Nat} {Q : QT} {m n : Nat} {u : Nat → Int32} {A : Nat → Nat → Int32} {R : Nat → Int64}
theorem m_laysWays (hM : MO hm m u A R) (hn : A 0 2 = nI n) (hn12 : n ≤ 12)
    (hQ : ∀ hm' f, MO hm' m (upd u 15 (nI (wcn (wyP (A 0) (A 13) n) (2 ^ n)))) (va_up A 14 f) R → (∀ k, k < n → f k = nI (wcn (fun s => wyP (A 0) (A 13) n s ∧ s.testBit k = true) (2 ^ n))) → (∀ k, n ≤ k → k < 12 → f k = 0) → sm m (m + 16) hm hm' → Q (some (.int (nI (wcn (wyP (A 0) (A 13) n) (2 ^ n))))) hm' hs) : CC X EV (d + 2) 190 [.ref m] hm hs Q := by
  have hpw := pw12 hn12
  obtain ⟨P, eP⟩ : ∃ P : Nat → Prop, P = wyP (A 0) (A 13) n := ⟨_, rfl⟩
  refine c_of (ls2 := [.ref m, .null, .null, .null, .null]) Y190 (Nat.le_of_ble_eq_true rfl) rfl I190 ?_
  simp only [r_iconst dX10_laysWays_0 ki0, r_is1 dX10_laysWays_1, r_iconst dX10_laysWays_2 ki0, r_is2 dX10_laysWays_3, List.cons_append, List.nil_append, Nat.reduceAdd, Option.toList, cat_f, cat_i, cat_n, cat_r, eq_self, true_and, z0]
  suffices H : ∀ k, k ≤ 12 → ∀ hm' f, MO hm' m u (va_up A 14 f) R → (∀ j, j < k → f j = 0) → sm m (m + 16) hm hm' → E1 X EV (d + 1) 10 0 0 (some .int) false cX10_laysWays Q 4 [.ref m, .int (nI 0), .int (nI k), .null, .null] [] 0 0 hm' hs from
    H 0 (by omega) hm (A 14) (by rw [va_self]; exact hM) (fun j hj => absurd hj (Nat.not_lt_zero j)) sm.rf
  refine up_loop 12 _ ?_ ?_
  · intro hm' f0 hM' hf hs'
    simp (disch := first | omega | (simp only [List.length_cons, List.length_nil]; omega)) only [r_il2 dX10_laysWays_4, r_bipush dX10_laysWays_5 kb12, r_ic_ge (tgt := 23) dX10_laysWays_7 rfl, r_al0 dX10_laysWays_10, r_getf dX10_laysWays_11 F10_33, r_il2 dX10_laysWays_14, r_iconst dX10_laysWays_15 ki0, r_iast dX10_laysWays_16, r_ii2 dX10_laysWays_17 kn1, r_gotoB (tgt := 4) dX10_laysWays_20 rfl, r_iconst dX10_laysWays_23 ki0, r_is2 dX10_laysWays_24, List.cons_append, List.nil_append, Nat.reduceAdd, Option.toList, cat_f, cat_i, cat_n, cat_r, eq_self, g10_14, pk_un, pk_us, rd_up_eq, rd_up_ne, sI_ok, true_and, up_eq, up_ne, up_up, z0]
    refine ⟨fun _ => ?_, fun h => absurd (by decide) h⟩
    suffices H : ∀ set, set ≤ 2 ^ n → ∀ w1 w2 hm2 f, MO hm2 m u (va_up A 14 f) R → (∀ k, k < n → f k = nI (wcn (fun s => wyP (A 0) (A 13) n s ∧ s.testBit k = true) set)) → (∀ k, n ≤ k → k < 12 → f k = 0) → sm m (m + 16) hm hm2 → E1 X EV (d + 1) 10 0 0 (some .int) false cX10_laysWays Q 25 [.ref m, .int (nI (wcn (wyP (A 0) (A 13) n) set)), .int (nI set), w1, w2] [] 0 0 hm2 hs from
      H 0 (by omega) _ _ hm' f0 hM' (fun k hk => hf k (by omega)) (fun k _ hk => hf k hk) hs'
    refine up_loop (2 ^ n) _ ?_ ?_
    · intro w1 w2 hm2 f hM2 g1 g2 g3
      have e2 : (va_up A 14 f) 0 2 = nI n := hn
      simp (disch := first | omega | (simp only [List.length_cons, List.length_nil]; omega)) only [r_il2 dX10_laysWays_25, r_iconst dX10_laysWays_26 ki1, r_al0 dX10_laysWays_27, r_getf dX10_laysWays_28 F10_13, r_iconst dX10_laysWays_31 ki2, r_iald dX10_laysWays_32, r_ishl dX10_laysWays_33, r_ic_ge (tgt := 191) dX10_laysWays_34 rfl, r_iconst dX10_laysWays_37 ki1, r_is3 dX10_laysWays_38, r_iconst dX10_laysWays_39 ki0, r_is4 dX10_laysWays_40, r_al0 dX10_laysWays_191, r_il1 dX10_laysWays_192, r_putf dX10_laysWays_193 F10_212, r_il1 dX10_laysWays_196, r_iret dX10_laysWays_197 (Nat.zero_le _) (Nat.zero_le _), List.cons_append, List.nil_append, Nat.reduceAdd, Option.toList, aI_ok, cat_f, cat_i, cat_n, cat_r, eq_self, fit_i, ft10_15, g10_0, p10_15, pk_un, pk_us, rd_up_eq, rd_up_ne, true_and, up_eq, up_ne, up_up, z0, hM2.r, rd_own hM2.r, hM2.r0, rd_own hM2.r0, vs2, ck2, e2, true_and, shl_eq hn12]
      exact ⟨fun _ => hQ _ f (hM2.o _) g1 g2 (g3.up (by omega)), fun h => absurd (Int32.le_refl _) h⟩
    · intro set hset ih w1 w2 hm2 f hM2 g1 g2 g3
      have e2 : (va_up A 14 f) 0 2 = nI n := hn
      have e0 : (va_up A 14 f) 0 = A 0 := rfl
      have e13 : (va_up A 14 f) 13 = A 13 := rfl
      have e14 : (va_up A 14 f) 14 = f := vu_eq _ _ _
      have hwl := wcn_le (wyP (A 0) (A 13) n) set
      have bitset : ∀ k, k < 12 → (bt (nI set) k = true) = (set.testBit k = true) := fun k hk => by rw [b_nI (by omega)]
      simp (disch := first | omega | (simp only [List.length_cons, List.length_nil]; omega)) only [r_il2 dX10_laysWays_25, r_iconst dX10_laysWays_26 ki1, r_al0 dX10_laysWays_27, r_getf dX10_laysWays_28 F10_13, r_iconst dX10_laysWays_31 ki2, r_iald dX10_laysWays_32, r_ishl dX10_laysWays_33, r_ic_ge (tgt := 191) dX10_laysWays_34 rfl, r_iconst dX10_laysWays_37 ki1, r_is3 dX10_laysWays_38, r_iconst dX10_laysWays_39 ki0, r_is4 dX10_laysWays_40, r_al0 dX10_laysWays_191, r_il1 dX10_laysWays_192, r_putf dX10_laysWays_193 F10_212, r_il1 dX10_laysWays_196, r_iret dX10_laysWays_197 (Nat.zero_le _) (Nat.zero_le _), List.cons_append, List.nil_append, Nat.reduceAdd, Option.toList, aI_ok, cat_f, cat_i, cat_n, cat_r, eq_self, fit_i, ft10_15, g10_0, p10_15, pk_un, pk_us, rd_up_eq, rd_up_ne, true_and, up_eq, up_ne, up_up, z0, hM2.r, rd_own hM2.r, hM2.r0, rd_own hM2.r0, vs2, ck2, e2, true_and, shl_eq hn12]
      refine ⟨fun h => absurd ((nI_leI (by omega) (by omega)).mp h) (by omega), fun _ => ?_⟩
      have skip0 : ¬ wyP (A 0) (A 13) n set → ∀ x, E1 X EV (d + 1) 10 0 0 (some .int) false cX10_laysWays Q 131 [.ref m, .int (nI (wcn (wyP (A 0) (A 13) n) set)), .int (nI set), .int 0, x] [] 0 0 hm2 hs := by
        intro hno x
        simp only [r_il3 dX10_laysWays_131, r_if_neB (tgt := 138) dX10_laysWays_132 rfl, r_goto (tgt := 185) dX10_laysWays_135 rfl, r_ii2 dX10_laysWays_185 kn1, r_gotoB (tgt := 25) dX10_laysWays_188 rfl, List.cons_append, List.nil_append, Nat.reduceAdd, Option.toList, cat_f, cat_i, cat_n, cat_r, eq_self, true_and, z0]
        refine ⟨fun h => absurd trivial h, fun _ => ?_⟩
        simp (disch := omega) only [E2, nI_1, nI_add, nI_leI, nI_ltI, nI_eq, nI_clamp]
        have := ih (.int 0) x hm2 f hM2 (fun k hk => ?_) g2 g3
        · rw [wcn, if_neg hno] at this; exact this
        · rw [g1 k hk, wcn, if_neg (fun z => hno z.1)]
      suffices H : ∀ k, k ≤ n → (∀ j, j < k → (if set.testBit j = true then ¬ A 0 (183 + j) = 2 ∧ A 13 j &&& (nI set ^^^ (-1)) = 0 else ¬ A 0 (183 + j) = 1)) → E1 X EV (d + 1) 10 0 0 (some .int) false cX10_laysWays Q 42 [.ref m, .int (nI (wcn (wyP (A 0) (A 13) n) set)), .int (nI set), .int 1, .int (nI k)] [] 0 0 hm2 hs from H 0 (by omega) (fun j hj => absurd hj (Nat.not_lt_zero j))
      refine up_loop n _ ?_ ?_
      · intro hall
        have hP : wyP (A 0) (A 13) n set := hall
        simp only [r_il4 dX10_laysWays_42, r_al0 dX10_laysWays_44, r_getf dX10_laysWays_45 F10_13, r_iconst dX10_laysWays_48 ki2, r_iald dX10_laysWays_49, r_ic_geB (tgt := 131) dX10_laysWays_50 rfl, r_il3 dX10_laysWays_53, r_if_eqB (tgt := 131) dX10_laysWays_54 rfl, r_il2 dX10_laysWays_57, r_il4 dX10_laysWays_58, List.cons_append, List.nil_append, Nat.reduceAdd, Option.toList, aI_ok, g10_0, z0, hM2.r, rd_own hM2.r, hM2.r0, rd_own hM2.r0, vs2, ck2, e2, true_and]
        refine ⟨fun _ => ?_, fun h => absurd (Int32.le_refl _) h⟩
        simp (disch := omega) only [E2, nI_1, nI_add, nI_leI, nI_ltI, nI_eq, nI_clamp]
        simp only [r_il3 dX10_laysWays_131, r_if_ne (tgt := 138) dX10_laysWays_132 rfl, r_gotoB (tgt := 185) dX10_laysWays_135 rfl, r_ii1 dX10_laysWays_138 kn1, r_iconst dX10_laysWays_141 ki0, r_is4 dX10_laysWays_142, List.cons_append, List.nil_append, Nat.reduceAdd, Option.toList, cat_f, cat_i, cat_n, cat_r, eq_self, true_and, z0]
        refine ⟨fun _ => ?_, fun h => absurd (Classical.not_not.mp h) (by decide)⟩
        rw [nI_1]
        suffices H : ∀ k, k ≤ n → ∀ hm3 f3, MO hm3 m u (va_up A 14 f3) R → (∀ j, j < n → f3 j = if j < k ∧ set.testBit j = true then f j + 1 else f j) → (∀ j, n ≤ j → j < 12 → f3 j = 0) → sm m (m + 16) hm hm3 → E1 X EV (d + 1) 10 0 0 (some .int) false cX10_laysWays Q 144 [.ref m, .int (nI (wcn (wyP (A 0) (A 13) n) set + 1)), .int (nI set), .int 1, .int (nI k)] [] 0 0 hm3 hs from
          H 0 (by omega) hm2 f hM2 (fun j hj => by rw [if_neg (by omega)]) g2 g3
        refine up_loop n _ ?_ ?_
        · intro hm3 f3 hM3 y1 y2 y3
          have e2 : (va_up A 14 f3) 0 2 = nI n := hn
          simp only [r_il4 dX10_laysWays_144, r_al0 dX10_laysWays_146, r_getf dX10_laysWays_147 F10_13, r_iconst dX10_laysWays_150 ki2, r_iald dX10_laysWays_151, r_ic_geB (tgt := 185) dX10_laysWays_152 rfl, r_al0 dX10_laysWays_155, r_getf dX10_laysWays_156 F10_33, r_il4 dX10_laysWays_159, r_dup2_ir dX10_laysWays_161, r_dup2_l dX10_laysWays_161, r_iald dX10_laysWays_162, r_il2 dX10_laysWays_163, r_il4 dX10_laysWays_164, List.cons_append, List.nil_append, Nat.reduceAdd, Option.toList, aI_ok, g10_0, g10_14, z0, hM3.r, rd_own hM3.r, hM3.r0, rd_own hM3.r0, vs2, ck2, e2, true_and]
          refine ⟨fun _ => ?_, fun h => absurd (Int32.le_refl _) h⟩
          simp (disch := omega) only [E2, nI_1, nI_add, nI_leI, nI_ltI, nI_eq, nI_clamp]
          simp only [r_ii2 dX10_laysWays_185 kn1, r_gotoB (tgt := 25) dX10_laysWays_188 rfl, List.cons_append, List.nil_append, Nat.reduceAdd, Option.toList, cat_f, cat_i, cat_n, cat_r, eq_self, true_and, z0]
          simp (disch := omega) only [E2, nI_1, nI_add, nI_leI, nI_ltI, nI_eq, nI_clamp]
          have := ih (.int 1) (.int (nI n)) hm3 f3 hM3 (fun k hk => ?_) y2 y3
          · rw [wcn, if_pos hP] at this; exact this
          · have hw2 := wcn_le (fun s => wyP (A 0) (A 13) n s ∧ s.testBit k = true) set
            rw [y1 k hk, g1 k hk, wcn]
            by_cases hb : set.testBit k = true
            · rw [if_pos ⟨hk, hb⟩, if_pos ⟨hP, hb⟩, nI_1]
            · rw [if_neg (fun z => hb z.2), if_neg (fun z => hb z.2)]
        · intro k hk ih3 hm3 f3 hM3 y1 y2 y3
          have e2 : (va_up A 14 f3) 0 2 = nI n := hn
          have e14 : (va_up A 14 f3) 14 = f3 := vu_eq _ _ _
          simp only [r_il4 dX10_laysWays_144, r_al0 dX10_laysWays_146, r_getf dX10_laysWays_147 F10_13, r_iconst dX10_laysWays_150 ki2, r_iald dX10_laysWays_151, r_ic_geB (tgt := 185) dX10_laysWays_152 rfl, r_al0 dX10_laysWays_155, r_getf dX10_laysWays_156 F10_33, r_il4 dX10_laysWays_159, r_dup2_ir dX10_laysWays_161, r_dup2_l dX10_laysWays_161, r_iald dX10_laysWays_162, r_il2 dX10_laysWays_163, r_il4 dX10_laysWays_164, List.cons_append, List.nil_append, Nat.reduceAdd, Option.toList, aI_ok, g10_0, g10_14, z0, hM3.r, rd_own hM3.r, hM3.r0, rd_own hM3.r0, hM3.r14, rd_own hM3.r14, vs2, ck2, e2, e14, true_and]
          refine ⟨fun h => absurd ((nI_leI (by omega) (by omega)).mp h) (by omega), fun _ => ⟨vp_in_nI (by omega) (by omega), ?_⟩⟩
          refine r_ist2 dX10_laysWays_166 M10_178 Y156 (Nat.le_of_ble_eq_true rfl) (Nat.le_refl _) (Nat.le_refl _) ?_
          refine m_has (by omega) ?_
          simp (disch := first | omega | (simp only [List.length_cons, List.length_nil]; omega)) only [r_if_eq (tgt := 176) dX10_laysWays_169 rfl, r_iconst dX10_laysWays_172 ki1, r_goto (tgt := 177) dX10_laysWays_173 rfl, r_iconst dX10_laysWays_176 ki0, r_iadd dX10_laysWays_177, r_iast dX10_laysWays_178, r_ii4 dX10_laysWays_179 kn1, r_gotoB (tgt := 144) dX10_laysWays_182 rfl, List.cons_append, List.nil_append, Nat.reduceAdd, Option.toList, cat_f, cat_i, cat_n, cat_r, eq_self, pk_un, pk_us, rd_up_eq, rd_up_ne, sI_ok, true_and, up_eq, up_ne, up_up, z0, hM3.r, rd_own hM3.r, hM3.r0, rd_own hM3.r0, hM3.r14, rd_own hM3.r14, e14, nI_clamp (show k < 2 ^ 31 by omega), bitset k (by omega)]
          refine ⟨fun h => ⟨vp_in_nI (by omega) (by omega), ?_⟩, fun h => ⟨vp_in_nI (by omega) (by omega), ?_⟩⟩
          · simp (disch := omega) only [E2, nI_1, nI_add, nI_leI, nI_ltI, nI_eq, nI_clamp]
            have h4 := hM3.w14 (upd f3 k (f3 k + 0))
            rw [va_va] at h4
            refine ih3 _ _ h4 (fun j hj => ?_) (fun j q1 q2 => by rw [pk_un (by omega)]; exact y2 j q1 q2) (y3.up (by omega))
            by_cases hjk : j = k
            · rw [hjk, pk_us, y1 k hk, if_neg (fun z => absurd z.1 (Nat.lt_irrefl _)), if_neg (fun z => h z.2)]; grind
            · rw [pk_un hjk, y1 j hj]
              by_cases hb : j < k ∧ set.testBit j = true
              · rw [if_pos hb, if_pos ⟨by omega, hb.2⟩]
              · rw [if_neg hb, if_neg (fun z => hb ⟨by omega, z.2⟩)]
          · simp (disch := omega) only [E2, nI_1, nI_add, nI_leI, nI_ltI, nI_eq, nI_clamp]
            have h4 := hM3.w14 (upd f3 k (f3 k + 1))
            rw [va_va] at h4
            refine ih3 _ _ h4 (fun j hj => ?_) (fun j q1 q2 => by rw [pk_un (by omega)]; exact y2 j q1 q2) (y3.up (by omega))
            by_cases hjk : j = k
            · rw [hjk, pk_us, y1 k hk, if_neg (fun z => absurd z.1 (Nat.lt_irrefl _)), if_pos ⟨by omega, Classical.not_not.mp h⟩]
            · rw [pk_un hjk, y1 j hj]
              by_cases hb : j < k ∧ set.testBit j = true
              · rw [if_pos hb, if_pos ⟨by omega, hb.2⟩]
              · rw [if_neg hb, if_neg (fun z => hb ⟨by omega, z.2⟩)]
      · intro k hk ih2 hall
        have good : (if set.testBit k = true then ¬ A 0 (183 + k) = 2 ∧ A 13 k &&& (nI set ^^^ (-1)) = 0 else ¬ A 0 (183 + k) = 1) → E1 X EV (d + 1) 10 0 0 (some .int) false cX10_laysWays Q 42 [.ref m, .int (nI (wcn (wyP (A 0) (A 13) n) set)), .int (nI set), .int 1, .int (nI (k + 1))] [] 0 0 hm2 hs := fun hg => ih2 (fun j hj => by
          rcases Nat.lt_or_ge j k with h' | h'
          · exact hall j h'
          · rw [show j = k by omega]; exact hg)
        have bad : ¬ (if set.testBit k = true then ¬ A 0 (183 + k) = 2 ∧ A 13 k &&& (nI set ^^^ (-1)) = 0 else ¬ A 0 (183 + k) = 1) → E1 X EV (d + 1) 10 0 0 (some .int) false cX10_laysWays Q 42 [.ref m, .int (nI (wcn (wyP (A 0) (A 13) n) set)), .int (nI set), .int 0, .int (nI (k + 1))] [] 0 0 hm2 hs := by
          intro hg
          have hs0 := skip0 (fun hP => hg (hP k hk)) (.int (nI (k + 1)))
          simp only [r_il4 dX10_laysWays_42, r_al0 dX10_laysWays_44, r_getf dX10_laysWays_45 F10_13, r_iconst dX10_laysWays_48 ki2, r_iald dX10_laysWays_49, r_ic_geB (tgt := 131) dX10_laysWays_50 rfl, r_il3 dX10_laysWays_53, r_if_eqB (tgt := 131) dX10_laysWays_54 rfl, r_il2 dX10_laysWays_57, r_il4 dX10_laysWays_58, List.cons_append, List.nil_append, Nat.reduceAdd, Option.toList, aI_ok, g10_0, z0, hM2.r, rd_own hM2.r, hM2.r0, rd_own hM2.r0, vs2, ck2, e2, true_and]
          simp (disch := omega) only [E2, nI_1, nI_add, nI_leI, nI_ltI, nI_eq, nI_clamp]
          exact ⟨fun _ => hs0, fun _ => ⟨fun _ => hs0, fun h => absurd trivial h⟩⟩
        simp only [r_il4 dX10_laysWays_42, r_al0 dX10_laysWays_44, r_getf dX10_laysWays_45 F10_13, r_iconst dX10_laysWays_48 ki2, r_iald dX10_laysWays_49, r_ic_geB (tgt := 131) dX10_laysWays_50 rfl, r_il3 dX10_laysWays_53, r_if_eqB (tgt := 131) dX10_laysWays_54 rfl, r_il2 dX10_laysWays_57, r_il4 dX10_laysWays_58, List.cons_append, List.nil_append, Nat.reduceAdd, Option.toList, aI_ok, g10_0, z0, hM2.r, rd_own hM2.r, hM2.r0, rd_own hM2.r0, vs2, ck2, e2, true_and]
        refine ⟨fun h => absurd ((nI_leI (by omega) (by omega)).mp h) (by omega), fun _ => ⟨fun h => absurd h (by decide), fun _ => ?_⟩⟩
        refine r_ist2 dX10_laysWays_60 M10_178 Y156 (Nat.le_of_ble_eq_true rfl) (Nat.le_refl _) (Nat.le_refl _) ?_
        refine m_has (by omega) ?_
        simp only [r_if_eq (tgt := 104) dX10_laysWays_63 rfl, r_al0 dX10_laysWays_66, r_getf dX10_laysWays_67 F10_13, r_sipush dX10_laysWays_70 ks183, r_il4 dX10_laysWays_73, r_iadd dX10_laysWays_75, r_iald dX10_laysWays_76, r_iconst dX10_laysWays_77 ki2, r_ic_eq (tgt := 99) dX10_laysWays_78 rfl, r_al0 dX10_laysWays_81, r_getf dX10_laysWays_82 F10_30, r_il4 dX10_laysWays_85, r_iald dX10_laysWays_87, r_il2 dX10_laysWays_88, r_iconst dX10_laysWays_89 kim1, r_ixor dX10_laysWays_90, r_iand dX10_laysWays_91, r_if_ne (tgt := 99) dX10_laysWays_92 rfl, r_iconst dX10_laysWays_95 ki1, r_goto (tgt := 100) dX10_laysWays_96 rfl, r_iconst dX10_laysWays_99 ki0, r_is3 dX10_laysWays_100, r_goto (tgt := 125) dX10_laysWays_101 rfl, r_al0 dX10_laysWays_104, r_getf dX10_laysWays_105 F10_13, r_sipush dX10_laysWays_108 ks183, r_il4 dX10_laysWays_111, r_iadd dX10_laysWays_113, r_iald dX10_laysWays_114, r_iconst dX10_laysWays_115 ki1, r_ic_eq (tgt := 123) dX10_laysWays_116 rfl, r_iconst dX10_laysWays_119 ki1, r_goto (tgt := 124) dX10_laysWays_120 rfl, r_iconst dX10_laysWays_123 ki0, r_is3 dX10_laysWays_124, r_ii4 dX10_laysWays_125 kn1, r_gotoB (tgt := 42) dX10_laysWays_128 rfl, List.cons_append, List.nil_append, Nat.reduceAdd, Option.toList, aI_ok, cat_f, cat_i, cat_n, cat_r, eq_self, g10_0, g10_13, true_and, z0, hM2.r, rd_own hM2.r, hM2.r0, rd_own hM2.r0, hM2.r13, rd_own hM2.r13, e0, e13, s183, bitset k (by omega), nI_clamp (show k < 2 ^ 31 by omega), nI_clamp (show 183 + k < 2 ^ 31 by omega)]
        simp (disch := omega) only [E2, nI_1, nI_add, nI_leI, nI_ltI, nI_eq, nI_clamp]
        have hv := vp_in_nI (show 183 + k < 217 by omega) (by omega)
        refine ⟨fun h => ⟨hv, fun h2 => bad (by rw [if_neg h]; exact fun z => z h2), fun h2 => good (by rw [if_neg h]; exact h2)⟩, fun h => ?_⟩
        have h := Classical.not_not.mp h
        exact ⟨hv, fun h2 => bad (by rw [if_pos h]; exact fun z => z.1 h2), fun h2 => ⟨vp_in_nI (by omega) (by omega), fun h3 => bad (by rw [if_pos h]; exact fun z => h3 z.2), fun h3 => good (by rw [if_pos h]; exact ⟨h2, Classical.not_not.mp h3⟩)⟩⟩
  · intro k hk ih hm' f hM' hf hs'
    have e14 : (va_up A 14 f) 14 = f := vu_eq _ _ _
    simp (disch := first | omega | (simp only [List.length_cons, List.length_nil]; omega)) only [r_il2 dX10_laysWays_4, r_bipush dX10_laysWays_5 kb12, r_ic_ge (tgt := 23) dX10_laysWays_7 rfl, r_al0 dX10_laysWays_10, r_getf dX10_laysWays_11 F10_33, r_il2 dX10_laysWays_14, r_iconst dX10_laysWays_15 ki0, r_iast dX10_laysWays_16, r_ii2 dX10_laysWays_17 kn1, r_gotoB (tgt := 4) dX10_laysWays_20 rfl, r_iconst dX10_laysWays_23 ki0, r_is2 dX10_laysWays_24, List.cons_append, List.nil_append, Nat.reduceAdd, Option.toList, cat_f, cat_i, cat_n, cat_r, eq_self, g10_14, pk_un, pk_us, rd_up_eq, rd_up_ne, sI_ok, true_and, up_eq, up_ne, up_up, z0, hM'.r, rd_own hM'.r, hM'.r14, rd_own hM'.r14, e14, show (12 : Int32) = nI 12 from rfl]
    simp (disch := omega) only [E2, nI_1, nI_add, nI_leI, nI_ltI, nI_eq, nI_clamp]
    refine ⟨fun h => absurd h (by omega), fun _ => ⟨vp_in_nI (by omega) (by omega), ?_⟩⟩
    have h4 := hM'.w14 (upd f k 0)
    rw [va_va] at h4
    refine ih _ _ h4 (fun j hj => ?_) (hs'.up (by omega))
    by_cases h : j = k
    · rw [h, pk_us]
    · rw [pk_un h]; exact hf j (by omega)
end M3
