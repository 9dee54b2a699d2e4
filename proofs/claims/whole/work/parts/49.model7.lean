/-! ===== the model: how it reads ===== -/
section M7
variable {X : HM} {EV : Nat → Value} {d : Nat} {hm : HM} {hs : Nat} {Q : QT} {m n : Nat} {u : Nat → Int32} {A : Nat → Nat → Int32} {R : Nat → Int64} {e q : Nat}
theorem m_fails {x y : Int32} (hM : MO hm m u A R) (h0 : ¬ u 9 = 0 → Q none hm hs) (h1 : u 9 = 0 → ∀ hm', MO hm' m (upd (upd u 9 x) 10 y) A R → sm m (m + 16) hm hm' → Q none hm' hs) : CC X EV (d + 1) 161 [.ref m, .int x, .int y] hm hs Q := by
  refine c_of (ls2 := [.ref m, .int x, .int y]) Y161 (Nat.le_of_ble_eq_true rfl) rfl I161 ?_
  simp (disch := first | omega | (simp only [List.length_cons, List.length_nil]; omega)) only [r_al0 dX10_fails_0, r_getf dX10_fails_1 F10_76, r_if_eq (tgt := 8) dX10_fails_4 rfl, r_vret dX10_fails_7 (Nat.zero_le _) (Nat.zero_le _), r_al0 dX10_fails_8, r_il1 dX10_fails_9, r_putf dX10_fails_10 F10_76, r_al0 dX10_fails_13, r_il2 dX10_fails_14, r_putf dX10_fails_15 F10_27, r_vret dX10_fails_18 (Nat.zero_le _) (Nat.zero_le _), List.cons_append, List.nil_append, Nat.reduceAdd, Option.toList, fit_i, ft10_10, ft10_9, g10_9, p10_10, p10_9, pk_un, pk_us, rd_up_eq, rd_up_ne, true_and, up_eq, up_ne, up_up, z0, hM.r, rd_own hM.r, hM.r, rd_own hM.r]
  exact ⟨fun h => h1 h _ (hM.o _) (sm.rf.up (by omega)), fun h => h0 h⟩
theorem m_isLetter {x : Int32} (h1 : isSm x → Q (some (.int 1)) hm hs) (h2 : ¬ isSm x → Q (some (.int 0)) hm hs) : CC X EV (d + 2) 162 [.int x] hm hs Q := by
  refine c_of (ls2 := [.int x]) Y162 (Nat.le_of_ble_eq_true rfl) rfl I162 ?_
  simp only [r_il0 dX10_isLetter_0, r_i2l dX10_isLetter_1, r_ldc2 dX10_isLetter_2 K10_79, r_ldc2 dX10_isLetter_5 K10_81, List.cons_append, List.nil_append, Nat.reduceAdd, Option.toList, z0]
  refine r_ist3 dX10_isLetter_8 M10_83 Y155 (Nat.le_of_ble_eq_true rfl) (Nat.le_refl _) (Nat.le_refl _) ?_
  rw [show (97 : Int64) = (97 : Int32).toInt64 from rfl, show (122 : Int64) = (122 : Int32).toInt64 from rfl]
  refine m_in ?_
  simp only [r_zret0 dX10_isLetter_11 (Nat.zero_le _) (Nat.zero_le _), r_zret1 dX10_isLetter_11 (Nat.zero_le _) (Nat.zero_le _), r_zretc dX10_isLetter_11 (Nat.zero_le _) (Nat.zero_le _), List.cons_append, List.nil_append, Nat.reduceAdd, Option.toList, z0]
  unfold isSm at *
  by_cases h : 97 ≤ x ∧ x ≤ 122
  · rw [if_pos h]; exact h1 h
  · rw [if_neg h]; exact h2 h
theorem m_isDigit {x : Int32} (h1 : isDg x → Q (some (.int 1)) hm hs) (h2 : ¬ isDg x → Q (some (.int 0)) hm hs) : CC X EV (d + 2) 163 [.int x] hm hs Q := by
  refine c_of (ls2 := [.int x]) Y163 (Nat.le_of_ble_eq_true rfl) rfl I163 ?_
  simp only [r_il0 dX10_isDigit_0, r_i2l dX10_isDigit_1, r_ldc2 dX10_isDigit_2 K10_87, r_ldc2 dX10_isDigit_5 K10_89, List.cons_append, List.nil_append, Nat.reduceAdd, Option.toList, z0]
  refine r_ist3 dX10_isDigit_8 M10_83 Y155 (Nat.le_of_ble_eq_true rfl) (Nat.le_refl _) (Nat.le_refl _) ?_
  rw [show (48 : Int64) = (48 : Int32).toInt64 from rfl, show (57 : Int64) = (57 : Int32).toInt64 from rfl]
  refine m_in ?_
  simp only [r_zret0 dX10_isDigit_11 (Nat.zero_le _) (Nat.zero_le _), r_zret1 dX10_isDigit_11 (Nat.zero_le _) (Nat.zero_le _), r_zretc dX10_isDigit_11 (Nat.zero_le _) (Nat.zero_le _), List.cons_append, List.nil_append, Nat.reduceAdd, Option.toList, z0]
  unfold isDg at *
  by_cases h : 48 ≤ x ∧ x ≤ 57
  · rw [if_pos h]; exact h1 h
  · rw [if_neg h]; exact h2 h
theorem m_peek (hM : MO hm m u A R) (e7 : u 7 = nI e) (he : e ≤ 900) (e8 : u 8 = nI q) (hq : q ≤ e)
    (hQ : ∀ st hm', nxq (A 5) e (fun x => x = 32) q st → MO hm' m (upd u 8 (nI st)) A R → sm m (m + 16) hm hm' → Q (some (.int (if st < e then A 5 st &&& 255 else -1))) hm' hs) : CC X EV (d + 1) 160 [.ref m] hm hs Q := by
  have eu : u = upd u 8 (nI q) := by funext i; unfold upd; grind
  have r7 : ∀ x, (upd u 8 x) 7 = nI e := fun x => by rw [pk_un (by decide)]; exact e7
  refine c_of (ls2 := [.ref m]) Y160 (Nat.le_of_ble_eq_true rfl) rfl I160 ?_
  have fin : ∀ st hm', nxq (A 5) e (fun x => x = 32) q st → MO hm' m (upd u 8 (nI st)) A R → sm m (m + 16) hm hm' → E1 X EV d 10 0 0 (some .int) false cX10_peek Q 38 [.ref m] [] 0 0 hm' hs := by
    intro st hm' hn hM' s'
    have hQ := hQ st hm' hn hM' s'
    have hst := hn.2.1
    simp only [r_al0 dX10_peek_38, r_getf dX10_peek_39 F10_70, r_al0 dX10_peek_42, r_getf dX10_peek_43 F10_73, r_ic_ge (tgt := 65) dX10_peek_46 rfl, r_al0 dX10_peek_49, r_getf dX10_peek_50 F10_23, r_al0 dX10_peek_53, r_getf dX10_peek_54 F10_70, r_bald dX10_peek_57, r_sipush dX10_peek_58 ks255, r_iand dX10_peek_61, r_goto (tgt := 66) dX10_peek_62 rfl, r_iconst dX10_peek_65 kim1, r_iret dX10_peek_66 (Nat.zero_le _) (Nat.zero_le _), List.cons_append, List.nil_append, Nat.reduceAdd, Option.toList, aB_ok, g10_5, g10_7, g10_8, z0, hM'.r, rd_own hM'.r, hM'.r5, rd_own hM'.r5, r7, e7, pk_us]
    refine ⟨fun h => ?_, fun h => ⟨?_, ?_⟩⟩
    · rw [nI_leI (by omega) (by omega)] at h
      rw [if_neg (by omega)] at hQ; exact hQ
    · rw [nI_leI (by omega) (by omega)] at h
      exact vp_in_nI (by omega) (by omega)
    · rw [nI_leI (by omega) (by omega)] at h
      rw [if_pos (by omega)] at hQ
      rw [nI_clamp (by omega)]
      exact hQ
  suffices H : ∀ k, k ≤ e - q → ∀ hm', (∀ i, q ≤ i → i < q + k → A 5 i = 32) → MO hm' m (upd u 8 (nI (q + k))) A R → sm m (m + 16) hm hm' → E1 X EV d 10 0 0 (some .int) false cX10_peek Q 0 [.ref m] [] 0 0 hm' hs from
    H 0 (by omega) hm (fun i h1 h2 => absurd h2 (by omega)) (by rw [Nat.add_zero, ← eu]; exact hM) sm.rf
  refine up_loop (e - q) _ ?_ ?_
  · intro hm' hall hM' s'
    rw [show q + (e - q) = e by omega] at hall hM'
    simp (disch := first | omega | (simp only [List.length_cons, List.length_nil]; omega)) only [r_al0 dX10_peek_0, r_getf dX10_peek_1 F10_70, r_al0 dX10_peek_4, r_getf dX10_peek_5 F10_73, r_ic_geB (tgt := 38) dX10_peek_8 rfl, r_al0 dX10_peek_11, r_getf dX10_peek_12 F10_23, r_al0 dX10_peek_15, r_getf dX10_peek_16 F10_70, r_bald dX10_peek_19, r_bipush dX10_peek_20 kb32, r_ic_neB (tgt := 38) dX10_peek_22 rfl, r_al0 dX10_peek_25, r_dup_i dX10_peek_26, r_dup_r dX10_peek_26, r_getf dX10_peek_27 F10_70, r_iconst dX10_peek_30 ki1, r_iadd dX10_peek_31, r_putf dX10_peek_32 F10_70, r_gotoB (tgt := 0) dX10_peek_35 rfl, List.cons_append, List.nil_append, Nat.reduceAdd, Option.toList, aB_ok, fit_i, ft10_8, g10_5, g10_7, g10_8, p10_8, pk_un, pk_us, rd_up_eq, rd_up_ne, true_and, up_eq, up_ne, up_up, z0, hM'.r, rd_own hM'.r, hM'.r5, rd_own hM'.r5, r7, e7, pk_us]
    simp (disch := omega) only [E2, nI_1, nI_add, nI_leI, nI_ltI, nI_eq, nI_clamp]
    exact ⟨fun _ => fin e hm' ⟨by omega, Nat.le_refl _, hall, fun h => absurd h (Nat.lt_irrefl _)⟩ hM' s', fun h => absurd (Nat.le_refl _) h⟩
  · intro k hk ih hm' hall hM' s'
    simp (disch := first | omega | (simp only [List.length_cons, List.length_nil]; omega)) only [r_al0 dX10_peek_0, r_getf dX10_peek_1 F10_70, r_al0 dX10_peek_4, r_getf dX10_peek_5 F10_73, r_ic_geB (tgt := 38) dX10_peek_8 rfl, r_al0 dX10_peek_11, r_getf dX10_peek_12 F10_23, r_al0 dX10_peek_15, r_getf dX10_peek_16 F10_70, r_bald dX10_peek_19, r_bipush dX10_peek_20 kb32, r_ic_neB (tgt := 38) dX10_peek_22 rfl, r_al0 dX10_peek_25, r_dup_i dX10_peek_26, r_dup_r dX10_peek_26, r_getf dX10_peek_27 F10_70, r_iconst dX10_peek_30 ki1, r_iadd dX10_peek_31, r_putf dX10_peek_32 F10_70, r_gotoB (tgt := 0) dX10_peek_35 rfl, List.cons_append, List.nil_append, Nat.reduceAdd, Option.toList, aB_ok, fit_i, ft10_8, g10_5, g10_7, g10_8, p10_8, pk_un, pk_us, rd_up_eq, rd_up_ne, true_and, up_eq, up_ne, up_up, z0, hM'.r, rd_own hM'.r, hM'.r5, rd_own hM'.r5, r7, e7, pk_us, upd_upd]
    simp (disch := omega) only [E2, nI_1, nI_add, nI_leI, nI_ltI, nI_eq, nI_clamp]
    refine ⟨fun h => absurd h (by omega), fun _ => ⟨vp_in_nI (by omega) (by omega), fun h5 => ?_, fun h5 => ?_⟩⟩
    · exact fin (q + k) hm' ⟨by omega, by omega, hall, fun _ => h5⟩ hM' s'
    · exact ih _ (fun i h1 h2 => by
        rcases Nat.lt_or_ge i (q + k) with h' | h'
        · exact hall i h1 h'
        · rw [show i = q + k by omega]; exact Classical.not_not.mp h5) (hM'.o _) (s'.up (by omega))
theorem m_lettersHere (hM : MO hm m u A R) (e7 : u 7 = nI e) (he : e ≤ 900) (e8 : u 8 = nI q) (hq : q ≤ e)
    (hQ : ∀ z, nxq (A 5) e isSm q (q + z) → Q (some (.int (nI z))) hm hs) : CC X EV (d + 3) 164 [.ref m] hm hs Q := by
  refine c_of (ls2 := [.ref m, .null]) Y164 (Nat.le_of_ble_eq_true rfl) rfl I164 ?_
  simp only [r_iconst dX10_lettersHere_0 ki0, r_is1 dX10_lettersHere_1, List.cons_append, List.nil_append, Nat.reduceAdd, Option.toList, cat_f, cat_i, cat_n, cat_r, eq_self, true_and, z0]
  suffices H : ∀ k, k ≤ e - q → (∀ i, q ≤ i → i < q + k → isSm (A 5 i)) → E1 X EV (d + 2) 10 0 0 (some .int) false cX10_lettersHere Q 2 [.ref m, .int (nI k)] [] 0 0 hm hs from H 0 (by omega) (fun i h1 h2 => absurd h2 (by omega))
  refine up_loop (e - q) _ ?_ ?_
  · intro hall
    have hQ := hQ (e - q)
    rw [show q + (e - q) = e by omega] at hall hQ
    simp only [r_al0 dX10_lettersHere_2, r_getf dX10_lettersHere_3 F10_70, r_il1 dX10_lettersHere_6, r_iadd dX10_lettersHere_7, r_al0 dX10_lettersHere_8, r_getf dX10_lettersHere_9 F10_73, r_ic_ge (tgt := 38) dX10_lettersHere_12 rfl, r_al0 dX10_lettersHere_15, r_getf dX10_lettersHere_16 F10_23, r_al0 dX10_lettersHere_19, r_getf dX10_lettersHere_20 F10_70, r_il1 dX10_lettersHere_23, r_iadd dX10_lettersHere_24, r_bald dX10_lettersHere_25, r_il1 dX10_lettersHere_38, r_iret dX10_lettersHere_39 (Nat.zero_le _) (Nat.zero_le _), List.cons_append, List.nil_append, Nat.reduceAdd, Option.toList, aB_ok, g10_5, g10_7, g10_8, z0, hM.r, rd_own hM.r, hM.r5, rd_own hM.r5, e7, e8, nI_add, show q + (e - q) = e by omega]
    exact ⟨fun _ => hQ ⟨hq, Nat.le_refl _, hall, fun h => absurd h (Nat.lt_irrefl _)⟩, fun h => absurd (Int32.le_refl _) h⟩
  · intro k hk ih hall
    simp only [r_al0 dX10_lettersHere_2, r_getf dX10_lettersHere_3 F10_70, r_il1 dX10_lettersHere_6, r_iadd dX10_lettersHere_7, r_al0 dX10_lettersHere_8, r_getf dX10_lettersHere_9 F10_73, r_ic_ge (tgt := 38) dX10_lettersHere_12 rfl, r_al0 dX10_lettersHere_15, r_getf dX10_lettersHere_16 F10_23, r_al0 dX10_lettersHere_19, r_getf dX10_lettersHere_20 F10_70, r_il1 dX10_lettersHere_23, r_iadd dX10_lettersHere_24, r_bald dX10_lettersHere_25, r_il1 dX10_lettersHere_38, r_iret dX10_lettersHere_39 (Nat.zero_le _) (Nat.zero_le _), List.cons_append, List.nil_append, Nat.reduceAdd, Option.toList, aB_ok, g10_5, g10_7, g10_8, z0, hM.r, rd_own hM.r, hM.r5, rd_own hM.r5, e7, e8, nI_add]
    simp (disch := omega) only [E2, nI_1, nI_add, nI_leI, nI_ltI, nI_eq, nI_clamp]
    refine ⟨fun h => absurd h (by omega), fun _ => ⟨vp_in_nI (by omega) (by omega), ?_⟩⟩
    refine r_ist1 dX10_lettersHere_26 M10_91 Y162 (Nat.le_of_ble_eq_true rfl) (Nat.le_refl _) (Nat.le_refl _) ?_
    refine m_isLetter (fun h1 => ?_) (fun h1 => ?_)
    · skip
      simp only [r_if_eq (tgt := 38) dX10_lettersHere_29 rfl, r_ii1 dX10_lettersHere_32 kn1, r_gotoB (tgt := 2) dX10_lettersHere_35 rfl, r_il1 dX10_lettersHere_38, r_iret dX10_lettersHere_39 (Nat.zero_le _) (Nat.zero_le _), List.cons_append, List.nil_append, Nat.reduceAdd, Option.toList, cat_f, cat_i, cat_n, cat_r, eq_self, true_and, z0]
      refine ⟨fun h => absurd h (by decide), fun _ => ?_⟩
      simp (disch := omega) only [E2, nI_1, nI_add, nI_leI, nI_ltI, nI_eq, nI_clamp]
      exact ih (fun i h1' h2 => by
        rcases Nat.lt_or_ge i (q + k) with h' | h'
        · exact hall i h1' h'
        · rw [show i = q + k by omega]; exact h1)
    · skip
      simp only [r_if_eq (tgt := 38) dX10_lettersHere_29 rfl, r_ii1 dX10_lettersHere_32 kn1, r_gotoB (tgt := 2) dX10_lettersHere_35 rfl, r_il1 dX10_lettersHere_38, r_iret dX10_lettersHere_39 (Nat.zero_le _) (Nat.zero_le _), List.cons_append, List.nil_append, Nat.reduceAdd, Option.toList, cat_f, cat_i, cat_n, cat_r, eq_self, true_and, z0]
      exact ⟨fun _ => hQ k ⟨by omega, by omega, hall, fun _ => h1⟩, fun h => absurd trivial h⟩
end M7
