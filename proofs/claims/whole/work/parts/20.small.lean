/-! ===== the rest of Script; Tape, Acts, Row ===== -/
section S2
variable {X : HM} {EV : Nat → Value} {d : Nat} {hm : HM} {hs : Nat} {Q : QT} {p : Nat} {u : Nat → Int32} {A : Nat → Nat → Int32} {B n : Nat}
theorem c_addLetter {z f w : Int32} (hP : SC hm p u A) (hn : u 0 = nI n) (hn10 : n < 10) (hQ : ∀ hm', SC hm' p (upd u 0 (nI n + 1)) (va_up (va_up (va_up A 4 (upd (A 4) n z)) 5 (upd (A 5) n f)) 6 (upd (A 6) n w)) → sm p (p + 11) hm hm' → Q none hm' hs) : CC X EV (d + 1) 69 [.ref p, .int z, .int f, .int w] hm hs Q := by
  have hin := vp_in_nI hn10 (by omega)
  refine c_of (ls2 := [.ref p, .int z, .int f, .int w]) Y69 (Nat.le_of_ble_eq_true rfl) rfl I69 ?_
  simp (disch := first | omega | (simp only [List.length_cons, List.length_nil]; omega)) only [r_al0 dX5_addLetter_0, r_getf dX5_addLetter_1 F5_24, r_al0 dX5_addLetter_4, r_getf dX5_addLetter_5 F5_9, r_il1 dX5_addLetter_8, r_iast dX5_addLetter_9, r_al0 dX5_addLetter_10, r_getf dX5_addLetter_11 F5_28, r_al0 dX5_addLetter_14, r_getf dX5_addLetter_15 F5_9, r_il2 dX5_addLetter_18, r_iast dX5_addLetter_19, r_al0 dX5_addLetter_20, r_getf dX5_addLetter_21 F5_31, r_al0 dX5_addLetter_24, r_getf dX5_addLetter_25 F5_9, r_il3 dX5_addLetter_28, r_iast dX5_addLetter_29, r_al0 dX5_addLetter_30, r_dup_i dX5_addLetter_31, r_dup_r dX5_addLetter_31, r_getf dX5_addLetter_32 F5_9, r_iconst dX5_addLetter_35 ki1, r_iadd dX5_addLetter_36, r_putf dX5_addLetter_37 F5_9, r_vret dX5_addLetter_40 (Nat.zero_le _) (Nat.zero_le _), List.cons_append, List.nil_append, Nat.reduceAdd, Option.toList, fit_i, ft5_0, g5_0, g5_4, g5_5, g5_6, p5_0, pk_un, pk_us, rd_up_eq, rd_up_ne, sI_ok, true_and, up_eq, up_ne, up_up, z0, hP.r, rd_own hP.r, hP.r4, rd_own hP.r4, hP.r5, rd_own hP.r5, hP.r6, rd_own hP.r6, hn, nI_clamp (show n < 2 ^ 31 by omega)]
  exact ⟨hin, hin, hin, hQ _ ((((hP.w4 _).w5 _).w6 _).o _) ((((sm.rf.up (by omega)).up (by omega)).up (by omega)).up (by omega))⟩
theorem c_addPlace {x y : Int32} (hP : SC hm p u A) (hn : u 1 = nI n) (hn8 : n < 8) (hQ : ∀ hm', SC hm' p (upd u 1 (nI n + 1)) (va_up (va_up (va_up A 7 (upd (A 7) n x)) 8 (upd (A 8) n y)) 9 (upd (A 9) n (-1))) → sm p (p + 11) hm hm' → Q none hm' hs) : CC X EV (d + 1) 70 [.ref p, .int x, .int y] hm hs Q := by
  have hin := vp_in_nI hn8 (by omega)
  refine c_of (ls2 := [.ref p, .int x, .int y]) Y70 (Nat.le_of_ble_eq_true rfl) rfl I70 ?_
  simp (disch := first | omega | (simp only [List.length_cons, List.length_nil]; omega)) only [r_al0 dX5_addPlace_0, r_getf dX5_addPlace_1 F5_34, r_al0 dX5_addPlace_4, r_getf dX5_addPlace_5 F5_15, r_il1 dX5_addPlace_8, r_iast dX5_addPlace_9, r_al0 dX5_addPlace_10, r_getf dX5_addPlace_11 F5_37, r_al0 dX5_addPlace_14, r_getf dX5_addPlace_15 F5_15, r_il2 dX5_addPlace_18, r_iast dX5_addPlace_19, r_al0 dX5_addPlace_20, r_getf dX5_addPlace_21 F5_40, r_al0 dX5_addPlace_24, r_getf dX5_addPlace_25 F5_15, r_iconst dX5_addPlace_28 kim1, r_iast dX5_addPlace_29, r_al0 dX5_addPlace_30, r_dup_i dX5_addPlace_31, r_dup_r dX5_addPlace_31, r_getf dX5_addPlace_32 F5_15, r_iconst dX5_addPlace_35 ki1, r_iadd dX5_addPlace_36, r_putf dX5_addPlace_37 F5_15, r_vret dX5_addPlace_40 (Nat.zero_le _) (Nat.zero_le _), List.cons_append, List.nil_append, Nat.reduceAdd, Option.toList, fit_i, ft5_1, g5_1, g5_7, g5_8, g5_9, p5_1, pk_un, pk_us, rd_up_eq, rd_up_ne, sI_ok, true_and, up_eq, up_ne, up_up, z0, hP.r, rd_own hP.r, hP.r7, rd_own hP.r7, hP.r8, rd_own hP.r8, hP.r9, rd_own hP.r9, hn, nI_clamp (show n < 2 ^ 31 by omega)]
  exact ⟨hin, hin, hin, hQ _ ((((hP.w7 _).w8 _).w9 _).o _) ((((sm.rf.up (by omega)).up (by omega)).up (by omega)).up (by omega))⟩
theorem c_isFree {f l : Nat} (hP : SC hm p u A) (hfl : f + l ≤ 8) (hQ : Q (some (.int (if ∀ i, i < l → A 9 (f + i) = -1 then 1 else 0))) hm hs) : CC X EV (d + 1) 71 [.ref p, .int (nI f), .int (nI l)] hm hs Q := by
  have hQ := zq hQ
  refine c_of (ls2 := [.ref p, .int (nI f), .int (nI l), .null]) Y71 (Nat.le_of_ble_eq_true rfl) rfl I71 ?_
  simp only [r_il1 dX5_isFree_0, r_is3 dX5_isFree_1, List.cons_append, List.nil_append, Nat.reduceAdd, Option.toList, cat_f, cat_i, cat_n, cat_r, eq_self, true_and, z0]
  suffices H : ∀ k, k ≤ l → (∀ i, i < k → A 9 (f + i) = -1) → E1 X EV d 5 0 0 (some .boolean) false cX5_isFree Q 2 [.ref p, .int (nI f), .int (nI l), .int (nI (f + k))] [] 0 0 hm hs from H 0 (by omega) (fun i hi => absurd hi (Nat.not_lt_zero i))
  refine up_loop l _ ?_ ?_
  · intro hk
    simp only [r_il3 dX5_isFree_2, r_il1 dX5_isFree_3, r_il2 dX5_isFree_4, r_iadd dX5_isFree_5, r_ic_ge (tgt := 27) dX5_isFree_6 rfl, r_al0 dX5_isFree_9, r_getf dX5_isFree_10 F5_40, r_il3 dX5_isFree_13, r_iald dX5_isFree_14, r_iconst dX5_isFree_15 kim1, r_ic_eq (tgt := 21) dX5_isFree_16 rfl, r_iconst dX5_isFree_19 ki0, r_zret0 dX5_isFree_20 (Nat.zero_le _) (Nat.zero_le _), r_zret1 dX5_isFree_20 (Nat.zero_le _) (Nat.zero_le _), r_zretc dX5_isFree_20 (Nat.zero_le _) (Nat.zero_le _), r_ii3 dX5_isFree_21 kn1, r_gotoB (tgt := 2) dX5_isFree_24 rfl, r_iconst dX5_isFree_27 ki1, r_zret0 dX5_isFree_28 (Nat.zero_le _) (Nat.zero_le _), r_zret1 dX5_isFree_28 (Nat.zero_le _) (Nat.zero_le _), r_zretc dX5_isFree_28 (Nat.zero_le _) (Nat.zero_le _), List.cons_append, List.nil_append, Nat.reduceAdd, Option.toList, aI_ok, cat_f, cat_i, cat_n, cat_r, eq_self, g5_9, true_and, z0]
    simp (disch := omega) only [E2, nI_1, nI_add, nI_leI, nI_ltI, nI_eq, nI_clamp]
    exact ⟨fun _ => hQ.1 hk, fun h => absurd (Nat.le_refl _) h⟩
  · intro k hk ih hno
    simp only [r_il3 dX5_isFree_2, r_il1 dX5_isFree_3, r_il2 dX5_isFree_4, r_iadd dX5_isFree_5, r_ic_ge (tgt := 27) dX5_isFree_6 rfl, r_al0 dX5_isFree_9, r_getf dX5_isFree_10 F5_40, r_il3 dX5_isFree_13, r_iald dX5_isFree_14, r_iconst dX5_isFree_15 kim1, r_ic_eq (tgt := 21) dX5_isFree_16 rfl, r_iconst dX5_isFree_19 ki0, r_zret0 dX5_isFree_20 (Nat.zero_le _) (Nat.zero_le _), r_zret1 dX5_isFree_20 (Nat.zero_le _) (Nat.zero_le _), r_zretc dX5_isFree_20 (Nat.zero_le _) (Nat.zero_le _), r_ii3 dX5_isFree_21 kn1, r_gotoB (tgt := 2) dX5_isFree_24 rfl, r_iconst dX5_isFree_27 ki1, r_zret0 dX5_isFree_28 (Nat.zero_le _) (Nat.zero_le _), r_zret1 dX5_isFree_28 (Nat.zero_le _) (Nat.zero_le _), r_zretc dX5_isFree_28 (Nat.zero_le _) (Nat.zero_le _), List.cons_append, List.nil_append, Nat.reduceAdd, Option.toList, aI_ok, cat_f, cat_i, cat_n, cat_r, eq_self, g5_9, true_and, z0, rd_own hP.r, rd_own hP.r9]
    simp (disch := omega) only [E2, nI_1, nI_add, nI_leI, nI_ltI, nI_eq, nI_clamp]
    refine ⟨fun h => absurd h (by omega), fun _ => ⟨vp_in_nI (by omega) (by omega), fun h => ?_, fun h => hQ.2 (fun hh => h (hh k hk))⟩⟩
    exact ih (fun i hi => by
      rcases Nat.lt_or_ge i k with h' | h'
      · exact hno i h'
      · rw [show i = k by omega]; exact h)
theorem c_addRun {f l : Nat} (hP : SC hm p u A) (hn : u 3 = nI n) (hn4 : n < 4) (hfl : f + l ≤ 8) (hQ : ∀ hm' A', SC hm' p (upd u 3 (nI n + 1)) A' → (∀ s, s ≠ 9 → s ≠ 12 → s ≠ 13 → A' s = A s) → A' 12 = upd (A 12) n (nI f) → A' 13 = upd (A 13) n (nI l) → (∀ q, A' 9 q = if f ≤ q ∧ q < f + l then nI n else A 9 q) → sm p (p + 11) hm hm' → Q none hm' hs) : CC X EV (d + 1) 72 [.ref p, .int (nI f), .int (nI l)] hm hs Q := by
  have hin := vp_in_nI hn4 (by omega)
  refine c_of (ls2 := [.ref p, .int (nI f), .int (nI l), .null]) Y72 (Nat.le_of_ble_eq_true rfl) rfl I72 ?_
  simp (disch := first | omega | (simp only [List.length_cons, List.length_nil]; omega)) only [r_al0 dX5_addRun_0, r_getf dX5_addRun_1 F5_49, r_al0 dX5_addRun_4, r_getf dX5_addRun_5 F5_21, r_il1 dX5_addRun_8, r_iast dX5_addRun_9, r_al0 dX5_addRun_10, r_getf dX5_addRun_11 F5_52, r_al0 dX5_addRun_14, r_getf dX5_addRun_15 F5_21, r_il2 dX5_addRun_18, r_iast dX5_addRun_19, r_il1 dX5_addRun_20, r_is3 dX5_addRun_21, List.cons_append, List.nil_append, Nat.reduceAdd, Option.toList, cat_f, cat_i, cat_n, cat_r, eq_self, g5_12, g5_13, g5_3, pk_un, pk_us, rd_up_eq, rd_up_ne, sI_ok, true_and, up_eq, up_ne, up_up, z0, hP.r, rd_own hP.r, hP.r12, rd_own hP.r12, hP.r13, rd_own hP.r13, hn, nI_clamp (show n < 2 ^ 31 by omega)]
  refine ⟨hin, hin, ?_⟩
  suffices H : ∀ k, k ≤ l → ∀ hm' A', SC hm' p u A' → (∀ s, s ≠ 9 → s ≠ 12 → s ≠ 13 → A' s = A s) → A' 12 = upd (A 12) n (nI f) → A' 13 = upd (A 13) n (nI l) → (∀ q, A' 9 q = if f ≤ q ∧ q < f + k then nI n else A 9 q) → sm p (p + 11) hm hm' → E1 X EV d 5 0 0 none false cX5_addRun Q 22 [.ref p, .int (nI f), .int (nI l), .int (nI (f + k))] [] 0 0 hm' hs from
    H 0 (by omega) _ _ ((hP.w12 _).w13 _) (fun s a b c => by rw [vu_ne c, vu_ne b]) (by rw [vu_ne (by decide), vu_eq]) (vu_eq _ _ _) (fun q => by rw [vu_ne (by decide), vu_ne (by decide)]; grind) ((sm.rf.up (by omega)).up (by omega))
  refine up_loop l _ ?_ ?_
  · intro hm' A' hP' h1 h2 h3 h4 h5
    simp (disch := first | omega | (simp only [List.length_cons, List.length_nil]; omega)) only [r_il3 dX5_addRun_22, r_il1 dX5_addRun_23, r_il2 dX5_addRun_24, r_iadd dX5_addRun_25, r_ic_ge (tgt := 45) dX5_addRun_26 rfl, r_al0 dX5_addRun_29, r_getf dX5_addRun_30 F5_40, r_il3 dX5_addRun_33, r_al0 dX5_addRun_34, r_getf dX5_addRun_35 F5_21, r_iast dX5_addRun_38, r_ii3 dX5_addRun_39 kn1, r_gotoB (tgt := 22) dX5_addRun_42 rfl, r_al0 dX5_addRun_45, r_dup_i dX5_addRun_46, r_dup_r dX5_addRun_46, r_getf dX5_addRun_47 F5_21, r_iconst dX5_addRun_50 ki1, r_iadd dX5_addRun_51, r_putf dX5_addRun_52 F5_21, r_vret dX5_addRun_55 (Nat.zero_le _) (Nat.zero_le _), List.cons_append, List.nil_append, Nat.reduceAdd, Option.toList, cat_f, cat_i, cat_n, cat_r, eq_self, fit_i, ft5_3, g5_3, g5_9, p5_3, pk_un, pk_us, rd_up_eq, rd_up_ne, sI_ok, true_and, up_eq, up_ne, up_up, z0, hP'.r, rd_own hP'.r, hP'.r, rd_own hP'.r, hn]
    simp (disch := omega) only [E2, nI_1, nI_add, nI_leI, nI_ltI, nI_eq, nI_clamp]
    exact ⟨fun _ => hQ _ A' (by have := hP'.o (upd u 3 (nI (n + 1))); rw [nI_1]; exact this) h1 h2 h3 h4 (h5.up (by omega)), fun h => absurd (Nat.le_refl _) h⟩
  · intro k hk ih hm' A' hP' h1 h2 h3 h4 h5
    simp (disch := first | omega | (simp only [List.length_cons, List.length_nil]; omega)) only [r_il3 dX5_addRun_22, r_il1 dX5_addRun_23, r_il2 dX5_addRun_24, r_iadd dX5_addRun_25, r_ic_ge (tgt := 45) dX5_addRun_26 rfl, r_al0 dX5_addRun_29, r_getf dX5_addRun_30 F5_40, r_il3 dX5_addRun_33, r_al0 dX5_addRun_34, r_getf dX5_addRun_35 F5_21, r_iast dX5_addRun_38, r_ii3 dX5_addRun_39 kn1, r_gotoB (tgt := 22) dX5_addRun_42 rfl, r_al0 dX5_addRun_45, r_dup_i dX5_addRun_46, r_dup_r dX5_addRun_46, r_getf dX5_addRun_47 F5_21, r_iconst dX5_addRun_50 ki1, r_iadd dX5_addRun_51, r_putf dX5_addRun_52 F5_21, r_vret dX5_addRun_55 (Nat.zero_le _) (Nat.zero_le _), List.cons_append, List.nil_append, Nat.reduceAdd, Option.toList, cat_f, cat_i, cat_n, cat_r, eq_self, fit_i, ft5_3, g5_3, g5_9, p5_3, pk_un, pk_us, rd_up_eq, rd_up_ne, sI_ok, true_and, up_eq, up_ne, up_up, z0, hP'.r, rd_own hP'.r, hP'.r9, rd_own hP'.r9, hn]
    simp (disch := omega) only [E2, nI_1, nI_add, nI_leI, nI_ltI, nI_eq, nI_clamp]
    refine ⟨fun h => absurd h (by omega), fun _ => ⟨vp_in_nI (by omega) (by omega), ?_⟩⟩
    refine ih _ _ (hP'.w9 _) (fun s a b c => by rw [vu_ne a]; exact h1 s a b c) (by rw [vu_ne (by decide)]; exact h2) (by rw [vu_ne (by decide)]; exact h3) (fun q => ?_) (h5.up (by omega))
    rw [vu_eq]
    unfold upd
    grind
theorem c_wordFits {w r f l fa : Nat} {F : Nat → Int32} (hP : SC hm p u A) (hF : hm fa = some (ia 8 F)) (hw : w < 12) (hr : r < 4) (e1 : A 12 r = nI f) (e2 : A 13 r = nI l) (h8 : f + l ≤ 8) (hl6 : l ≤ 6) (hlt : A 10 w = A 13 r → ∀ i, i < l → ∃ t, t < 32 ∧ A 11 (6 * w + i) = nI t) {c : Prop} [Decidable c] (hcw : c ↔ wfit A F w r f l)
    (hQ : Q (some (.int (if c then 1 else 0))) hm hs) : CC X EV (d + 2) 75 [.ref p, .int (nI w), .int (nI r), .ref fa] hm hs Q := by
  have hQ := zq hQ
  rw [hcw] at hQ
  have hiw := vp_in_nI hw (by omega)
  have hir := vp_in_nI hr (by omega)
  refine c_of (ls2 := [.ref p, .int (nI w), .int (nI r), .ref fa, .null]) Y75 (Nat.le_of_ble_eq_true rfl) rfl I75 ?_
  simp only [r_al0 dX5_wordFits_0, r_getf dX5_wordFits_1 F5_43, r_il1 dX5_wordFits_4, r_iald dX5_wordFits_5, r_al0 dX5_wordFits_6, r_getf dX5_wordFits_7 F5_52, r_il2 dX5_wordFits_10, r_iald dX5_wordFits_11, r_ic_eq (tgt := 17) dX5_wordFits_12 rfl, r_iconst dX5_wordFits_15 ki0, r_zret0 dX5_wordFits_16 (Nat.zero_le _) (Nat.zero_le _), r_zret1 dX5_wordFits_16 (Nat.zero_le _) (Nat.zero_le _), r_zretc dX5_wordFits_16 (Nat.zero_le _) (Nat.zero_le _), r_iconst dX5_wordFits_17 ki0, r_is4 dX5_wordFits_18, List.cons_append, List.nil_append, Nat.reduceAdd, Option.toList, aI_ok, cat_f, cat_i, cat_n, cat_r, eq_self, g5_10, g5_13, true_and, z0, rd_own hP.r, rd_own hP.r10, rd_own hP.r13, nI_clamp (show w < 2 ^ 31 by omega), nI_clamp (show r < 2 ^ 31 by omega)]
  refine ⟨hiw, hir, fun h => ?_, fun h => hQ.2 (fun hh => h hh.1)⟩
  suffices H : ∀ k, k ≤ l → (∀ i, i < k → bt (F (f + i)) (A 11 (6 * w + i)).toNatClampNeg = true) → E1 X EV (d + 1) 5 0 0 (some .boolean) false cX5_wordFits Q 20 [.ref p, .int (nI w), .int (nI r), .ref fa, .int (nI k)] [] 0 0 hm hs from H 0 (by omega) (fun i hi => absurd hi (Nat.not_lt_zero i))
  refine up_loop l _ ?_ ?_
  · intro hk
    simp only [r_il4 dX5_wordFits_20, r_al0 dX5_wordFits_22, r_getf dX5_wordFits_23 F5_52, r_il2 dX5_wordFits_26, r_iald dX5_wordFits_27, r_ic_ge (tgt := 63) dX5_wordFits_28 rfl, r_al3 dX5_wordFits_31, r_al0 dX5_wordFits_32, r_getf dX5_wordFits_33 F5_49, r_il2 dX5_wordFits_36, r_iald dX5_wordFits_37, r_il4 dX5_wordFits_38, r_iadd dX5_wordFits_40, r_iald dX5_wordFits_41, r_al0 dX5_wordFits_42, r_il1 dX5_wordFits_43, r_il4 dX5_wordFits_44, r_iconst dX5_wordFits_63 ki1, r_zret0 dX5_wordFits_64 (Nat.zero_le _) (Nat.zero_le _), r_zret1 dX5_wordFits_64 (Nat.zero_le _) (Nat.zero_le _), r_zretc dX5_wordFits_64 (Nat.zero_le _) (Nat.zero_le _), List.cons_append, List.nil_append, Nat.reduceAdd, Option.toList, aI_ok, g5_12, g5_13, z0, rd_own hP.r, rd_own hP.r13, nI_clamp (show r < 2 ^ 31 by omega), e2]
    simp (disch := omega) only [E2, nI_1, nI_add, nI_leI, nI_ltI, nI_eq, nI_clamp]
    exact ⟨hir, fun _ => hQ.1 ⟨h, hk⟩, fun h => absurd (Nat.le_refl _) h⟩
  · intro k hk ih hno
    obtain ⟨t, ht, et⟩ := hlt h k hk
    simp only [r_il4 dX5_wordFits_20, r_al0 dX5_wordFits_22, r_getf dX5_wordFits_23 F5_52, r_il2 dX5_wordFits_26, r_iald dX5_wordFits_27, r_ic_ge (tgt := 63) dX5_wordFits_28 rfl, r_al3 dX5_wordFits_31, r_al0 dX5_wordFits_32, r_getf dX5_wordFits_33 F5_49, r_il2 dX5_wordFits_36, r_iald dX5_wordFits_37, r_il4 dX5_wordFits_38, r_iadd dX5_wordFits_40, r_iald dX5_wordFits_41, r_al0 dX5_wordFits_42, r_il1 dX5_wordFits_43, r_il4 dX5_wordFits_44, r_iconst dX5_wordFits_63 ki1, r_zret0 dX5_wordFits_64 (Nat.zero_le _) (Nat.zero_le _), r_zret1 dX5_wordFits_64 (Nat.zero_le _) (Nat.zero_le _), r_zretc dX5_wordFits_64 (Nat.zero_le _) (Nat.zero_le _), List.cons_append, List.nil_append, Nat.reduceAdd, Option.toList, aI_ok, g5_12, g5_13, z0, rd_own hP.r, rd_own hP.r13, rd_own hP.r12, rd_own hF, nI_clamp (show r < 2 ^ 31 by omega), e1, e2]
    simp (disch := omega) only [E2, nI_1, nI_add, nI_leI, nI_ltI, nI_eq, nI_clamp]
    refine ⟨hir, fun h => absurd h (by omega), fun _ => ⟨hir, vp_in_nI (by omega) (by omega), ?_⟩⟩
    refine r_iv3 dX5_wordFits_46 M5_62 Y73 O73 (Nat.le_of_ble_eq_true rfl) (rcv_own hP.r) (Nat.le_refl _) (Nat.le_refl _) ?_
    refine c_letterOf hP hw (by omega) ?_
    simp only [r_ishr dX5_wordFits_49, r_iconst dX5_wordFits_50 ki1, r_iand dX5_wordFits_51, r_if_ne (tgt := 57) dX5_wordFits_52 rfl, r_iconst dX5_wordFits_55 ki0, r_zret0 dX5_wordFits_56 (Nat.zero_le _) (Nat.zero_le _), r_zret1 dX5_wordFits_56 (Nat.zero_le _) (Nat.zero_le _), r_zretc dX5_wordFits_56 (Nat.zero_le _) (Nat.zero_le _), r_ii4 dX5_wordFits_57 kn1, r_gotoB (tgt := 20) dX5_wordFits_60 rfl, List.cons_append, List.nil_append, Nat.reduceAdd, Option.toList, cat_f, cat_i, cat_n, cat_r, eq_self, true_and, z0, et, tst0 ht]
    simp (disch := omega) only [E2, nI_1, nI_add, nI_leI, nI_ltI, nI_eq, nI_clamp]
    have et2 : (A 11 (6 * w + k)).toNatClampNeg = t := by rw [et]; exact nI_clamp (by omega)
    refine ⟨fun hb => ih (fun i hi => ?_), fun hb => hQ.2 (fun hh => ?_)⟩
    · rcases Nat.lt_or_ge i k with h' | h'
      · exact hno i h'
      · rw [show i = k by omega, et2]; simpa using hb
    · have := hh.2 k hk
      rw [et2] at this
      rw [this] at hb
      exact hb (by decide)
theorem c_weightOfWord {w l : Nat} (hP : SC hm p u A) (hw : w < 12) (e1 : A 10 w = nI l) (hl6 : l ≤ 6) (hlt : ∀ i, i < l → ∃ t, t < 10 ∧ A 11 (6 * w + i) = nI t) (hQ : Q (some (.long (prodL A w l))) hm hs) : CC X EV (d + 2) 77 [.ref p, .int (nI w)] hm hs Q := by
  have hiw := vp_in_nI hw (by omega)
  refine c_of (ls2 := [.ref p, .int (nI w), .null, .null, .null]) Y77 (Nat.le_of_ble_eq_true rfl) rfl I77 ?_
  simp only [r_lconst dX5_weightOfWord_0 kl1, r_ls2 dX5_weightOfWord_1, r_iconst dX5_weightOfWord_2 ki0, r_is4 dX5_weightOfWord_3, List.cons_append, List.nil_append, Nat.reduceAdd, Option.toList, cat_f, cat_i, cat_n, cat_r, eq_self, true_and, z0]
  refine up_loop l (fun k => E1 X EV (d + 1) 5 0 0 (some .long) false cX5_weightOfWord Q 5 [.ref p, .int (nI w), .long (prodL A w k), .null, .int (nI k)] [] 0 0 hm hs) ?_ ?_ 0 (by omega)
  · skip
    simp only [r_il4 dX5_weightOfWord_5, r_al0 dX5_weightOfWord_7, r_getf dX5_weightOfWord_8 F5_43, r_il1 dX5_weightOfWord_11, r_iald dX5_weightOfWord_12, r_ic_ge (tgt := 38) dX5_weightOfWord_13 rfl, r_ll2 dX5_weightOfWord_16, r_al0 dX5_weightOfWord_17, r_getf dX5_weightOfWord_18 F5_31, r_al0 dX5_weightOfWord_21, r_il1 dX5_weightOfWord_22, r_il4 dX5_weightOfWord_23, r_ll2 dX5_weightOfWord_38, r_lret dX5_weightOfWord_39 (Nat.zero_le _) (Nat.zero_le _), List.cons_append, List.nil_append, Nat.reduceAdd, Option.toList, aI_ok, g5_10, g5_6, z0, rd_own hP.r, rd_own hP.r10, nI_clamp (show w < 2 ^ 31 by omega), e1]
    exact ⟨hiw, fun _ => hQ, fun h => absurd (Int32.le_refl _) h⟩
  · intro k hk ih
    obtain ⟨t, ht, et⟩ := hlt k hk
    simp only [r_il4 dX5_weightOfWord_5, r_al0 dX5_weightOfWord_7, r_getf dX5_weightOfWord_8 F5_43, r_il1 dX5_weightOfWord_11, r_iald dX5_weightOfWord_12, r_ic_ge (tgt := 38) dX5_weightOfWord_13 rfl, r_ll2 dX5_weightOfWord_16, r_al0 dX5_weightOfWord_17, r_getf dX5_weightOfWord_18 F5_31, r_al0 dX5_weightOfWord_21, r_il1 dX5_weightOfWord_22, r_il4 dX5_weightOfWord_23, r_ll2 dX5_weightOfWord_38, r_lret dX5_weightOfWord_39 (Nat.zero_le _) (Nat.zero_le _), List.cons_append, List.nil_append, Nat.reduceAdd, Option.toList, aI_ok, g5_10, g5_6, z0, rd_own hP.r, rd_own hP.r10, nI_clamp (show w < 2 ^ 31 by omega), e1]
    simp (disch := omega) only [E2, nI_1, nI_add, nI_leI, nI_ltI, nI_eq, nI_clamp]
    refine ⟨hiw, fun h => absurd h (by omega), fun _ => ?_⟩
    refine r_iv3 dX5_weightOfWord_25 M5_62 Y73 O73 (Nat.le_of_ble_eq_true rfl) (rcv_own hP.r) (Nat.le_refl _) (Nat.le_refl _) ?_
    refine c_letterOf hP hw (by omega) ?_
    simp only [r_iald dX5_weightOfWord_28, r_i2l dX5_weightOfWord_29, r_lmul dX5_weightOfWord_30, r_ls2 dX5_weightOfWord_31, r_ii4 dX5_weightOfWord_32 kn1, r_gotoB (tgt := 5) dX5_weightOfWord_35 rfl, List.cons_append, List.nil_append, Nat.reduceAdd, Option.toList, aI_ok, cat_f, cat_i, cat_n, cat_r, eq_self, true_and, z0, rd_own hP.r6, et]
    simp (disch := omega) only [E2, nI_1, nI_add, nI_leI, nI_ltI, nI_eq, nI_clamp]
    refine ⟨vp_in_nI ht (by omega), ?_⟩
    unfold prodL at ih
    rw [et, nI_clamp (by omega)] at ih
    exact ih
theorem c_heaviestOf {set : Int32} (hP : SC hm p u A) (hn : u 0 = nI n) (hn10 : n ≤ 10) (hQ : Q (some (.int (heav (A 6) set n))) hm hs) : CC X EV (d + 1) 78 [.ref p, .int set] hm hs Q := by
  refine c_of (ls2 := [.ref p, .int set, .null, .null, .null]) Y78 (Nat.le_of_ble_eq_true rfl) rfl I78 ?_
  simp only [r_iconst dX5_heaviestOf_0 kim1, r_is2 dX5_heaviestOf_1, r_iconst dX5_heaviestOf_2 ki0, r_is3 dX5_heaviestOf_3, List.cons_append, List.nil_append, Nat.reduceAdd, Option.toList, cat_f, cat_i, cat_n, cat_r, eq_self, true_and, z0]
  suffices H : ∀ k, k ≤ n → ∀ w, E1 X EV d 5 0 0 (some .int) false cX5_heaviestOf Q 4 [.ref p, .int set, .int (heav (A 6) set k), .int (nI k), w] [] 0 0 hm hs from H 0 (by omega) _
  refine up_loop n _ ?_ ?_
  · intro w
    simp only [r_il3 dX5_heaviestOf_4, r_al0 dX5_heaviestOf_5, r_getf dX5_heaviestOf_6 F5_9, r_ic_ge (tgt := 60) dX5_heaviestOf_9 rfl, r_il1 dX5_heaviestOf_12, r_il3 dX5_heaviestOf_13, r_ishr dX5_heaviestOf_14, r_iconst dX5_heaviestOf_15 ki1, r_iand dX5_heaviestOf_16, r_if_eq (tgt := 24) dX5_heaviestOf_17 rfl, r_iconst dX5_heaviestOf_20 ki1, r_goto (tgt := 25) dX5_heaviestOf_21 rfl, r_iconst dX5_heaviestOf_24 ki0, r_is4 dX5_heaviestOf_25, r_il2 dX5_heaviestOf_60, r_iret dX5_heaviestOf_61 (Nat.zero_le _) (Nat.zero_le _), List.cons_append, List.nil_append, Nat.reduceAdd, Option.toList, cat_f, cat_i, cat_n, cat_r, eq_self, g5_0, true_and, z0, rd_own hP.r, hn]
    exact ⟨fun _ => hQ, fun h => absurd (Int32.le_refl _) h⟩
  · intro k hk ih w
    simp only [r_il3 dX5_heaviestOf_4, r_al0 dX5_heaviestOf_5, r_getf dX5_heaviestOf_6 F5_9, r_ic_ge (tgt := 60) dX5_heaviestOf_9 rfl, r_il1 dX5_heaviestOf_12, r_il3 dX5_heaviestOf_13, r_ishr dX5_heaviestOf_14, r_iconst dX5_heaviestOf_15 ki1, r_iand dX5_heaviestOf_16, r_if_eq (tgt := 24) dX5_heaviestOf_17 rfl, r_iconst dX5_heaviestOf_20 ki1, r_goto (tgt := 25) dX5_heaviestOf_21 rfl, r_iconst dX5_heaviestOf_24 ki0, r_is4 dX5_heaviestOf_25, r_il4 dX5_heaviestOf_27, r_if_eq (tgt := 54) dX5_heaviestOf_29 rfl, r_il2 dX5_heaviestOf_32, r_iconst dX5_heaviestOf_33 kim1, r_ic_eq (tgt := 52) dX5_heaviestOf_34 rfl, r_al0 dX5_heaviestOf_37, r_getf dX5_heaviestOf_38 F5_31, r_il3 dX5_heaviestOf_41, r_iald dX5_heaviestOf_42, r_al0 dX5_heaviestOf_43, r_getf dX5_heaviestOf_44 F5_31, r_il2 dX5_heaviestOf_47, r_iald dX5_heaviestOf_48, r_ic_le (tgt := 54) dX5_heaviestOf_49 rfl, r_il3 dX5_heaviestOf_52, r_is2 dX5_heaviestOf_53, r_ii3 dX5_heaviestOf_54 kn1, r_gotoB (tgt := 4) dX5_heaviestOf_57 rfl, r_il2 dX5_heaviestOf_60, r_iret dX5_heaviestOf_61 (Nat.zero_le _) (Nat.zero_le _), List.cons_append, List.nil_append, Nat.reduceAdd, Option.toList, aI_ok, cat_f, cat_i, cat_n, cat_r, eq_self, g5_0, g5_6, true_and, z0, rd_own hP.r, rd_own hP.r6, hn, tst0 (show k < 32 by omega)]
    simp (disch := omega) only [E2, nI_1, nI_add, nI_leI, nI_ltI, nI_eq, nI_clamp]
    have hik := vp_in_nI (show k < 10 by omega) (by omega)
    have hj : ¬ heav (A 6) set k = -1 → vp_in (heav (A 6) set k) 10 := by
      intro h
      rcases heav_lt (A 6) set k (by omega) with h1 | ⟨j, h1, h2⟩
      · exact absurd h1 h
      · rw [h2]; exact vp_in_nI (by omega) (by omega)
    unfold heav at ih
    grind
theorem c_signFor {set : Int32} (hP : SC hm p u A) (h12 : ∀ i, 10 ≤ i → i < 32 → bt set i = false) (hQ : Q (some (.int (if set = 0 then 63 else if pcnt set = 1 then A 4 (ntz set).toNatClampNeg else 46))) hm hs) : CC X EV (d + 2) 80 [.ref p, .int set] hm hs Q := by
  refine c_of (ls2 := [.ref p, .int set]) Y80 (Nat.le_of_ble_eq_true rfl) rfl I80 ?_
  simp only [r_il1 dX5_signFor_0, r_if_ne (tgt := 7) dX5_signFor_1 rfl, r_bipush dX5_signFor_4 kb63, r_iret dX5_signFor_6 (Nat.zero_le _) (Nat.zero_le _), r_il1 dX5_signFor_7, List.cons_append, List.nil_append, Nat.reduceAdd, Option.toList, z0]
  refine ⟨fun h => ?_, fun h => ?_⟩
  · skip
    refine r_ist1 dX5_signFor_8 M5_70 Y263 (Nat.le_of_ble_eq_true rfl) (Nat.le_refl _) (Nat.le_refl _) ?_
    refine c_bitCount ?_
    simp only [r_iconst dX5_signFor_11 ki1, r_ic_ne (tgt := 27) dX5_signFor_12 rfl, r_al0 dX5_signFor_15, r_getf dX5_signFor_16 F5_24, r_il1 dX5_signFor_19, r_bipush dX5_signFor_27 kb46, r_iret dX5_signFor_29 (Nat.zero_le _) (Nat.zero_le _), List.cons_append, List.nil_append, Nat.reduceAdd, Option.toList, g5_4, z0, rd_own hP.r]
    rw [if_neg h] at hQ
    refine ⟨fun h1 => ?_, fun h1 => ?_⟩
    · rw [if_neg h1] at hQ
      exact hQ
    · skip
      refine r_ist1 dX5_signFor_20 M5_75 Y262 (Nat.le_of_ble_eq_true rfl) (Nat.le_refl _) (Nat.le_refl _) ?_
      refine c_ntz ?_
      simp only [r_iald dX5_signFor_23, r_goto (tgt := 29) dX5_signFor_24 rfl, r_iret dX5_signFor_29 (Nat.zero_le _) (Nat.zero_le _), List.cons_append, List.nil_append, Nat.reduceAdd, Option.toList, aI_ok, z0, rd_own hP.r4]
      rw [if_pos (Classical.not_not.mp h1)] at hQ
      refine ⟨?_, hQ⟩
      have h2 : fstN (fun k => bt set k = true) 12 < 10 := by
        obtain ⟨-, -, h3⟩ := ntz_b (fun i a b => h12 i (by omega) b) h
        have h4 := fstN_lt h3
        rcases Nat.lt_or_ge (fstN (fun k => bt set k = true) 12) 10 with h5 | h5
        · exact h5
        · rw [h12 _ h5 (by omega)] at h4
          cases h4
      rw [(ntz_b (fun i a b => h12 i (by omega) b) h).1]
      exact vp_in_nI h2 (by omega)
  · rw [if_pos (Classical.not_not.mp h)] at hQ
    exact hQ
theorem c_share {set : Int32} {k : Nat} (hP : SC hm p u A) (hn : u 0 = nI n) (hn10 : n ≤ 10) (hk : k < 10) (hok : bt set k = true → 0 < totv (A 6) set n ∧ vf_n32 (FP.fdiv (FP.i2f (A 6 k)) (FP.i2f (totv (A 6) set n)))) (hQ : Q (some (.float (if bt set k = true then FP.fdiv (FP.i2f (A 6 k)) (FP.i2f (totv (A 6) set n)) else FP.fconst0))) hm hs) : CC X EV (d + 1) 79 [.ref p, .int (nI k), .int set] hm hs Q := by
  refine c_of (ls2 := [.ref p, .int (nI k), .int set, .null, .null]) Y79 (Nat.le_of_ble_eq_true rfl) rfl I79 ?_
  simp only [r_il2 dX5_share_0, r_il1 dX5_share_1, r_ishr dX5_share_2, r_iconst dX5_share_3 ki1, r_iand dX5_share_4, r_if_ne (tgt := 10) dX5_share_5 rfl, r_fconst dX5_share_8, r_fret dX5_share_9 (Nat.zero_le _) (Nat.zero_le _), r_iconst dX5_share_10 ki0, r_is3 dX5_share_11, r_iconst dX5_share_12 ki0, r_is4 dX5_share_13, List.cons_append, List.nil_append, Nat.reduceAdd, Option.toList, cat_f, cat_i, cat_n, cat_r, eq_self, true_and, z0, tst0 (show k < 32 by omega)]
  refine ⟨fun hb => ?_, fun hb => ?_⟩
  · have hb : bt set k = true := by simpa using hb
    rw [if_pos hb] at hQ
    refine up_loop n (fun j => E1 X EV d 5 0 0 (some .float) false cX5_share Q 15 [.ref p, .int (nI k), .int set, .int (totv (A 6) set j), .int (nI j)] [] 0 0 hm hs) ?_ ?_ 0 (by omega)
    · skip
      simp only [r_il4 dX5_share_15, r_al0 dX5_share_17, r_getf dX5_share_18 F5_9, r_ic_ge (tgt := 49) dX5_share_21 rfl, r_il2 dX5_share_24, r_il4 dX5_share_25, r_ishr dX5_share_27, r_iconst dX5_share_28 ki1, r_iand dX5_share_29, r_if_eq (tgt := 43) dX5_share_30 rfl, r_il3 dX5_share_33, r_al0 dX5_share_34, r_getf dX5_share_35 F5_31, r_il4 dX5_share_38, r_iald dX5_share_40, r_iadd dX5_share_41, r_is3 dX5_share_42, r_ii4 dX5_share_43 kn1, r_gotoB (tgt := 15) dX5_share_46 rfl, r_il3 dX5_share_49, r_if_le (tgt := 66) dX5_share_50 rfl, r_al0 dX5_share_53, r_getf dX5_share_54 F5_31, r_il1 dX5_share_57, r_iald dX5_share_58, r_i2f dX5_share_59, r_il3 dX5_share_60, r_i2f dX5_share_61, r_fdiv dX5_share_62, r_goto (tgt := 67) dX5_share_63 rfl, r_fconst dX5_share_66, r_fret dX5_share_67 (Nat.zero_le _) (Nat.zero_le _), List.cons_append, List.nil_append, Nat.reduceAdd, Option.toList, aI_ok, cat_f, cat_i, cat_n, cat_r, eq_self, g5_0, g5_6, true_and, z0, rd_own hP.r, rd_own hP.r6, hn, nI_clamp (show k < 2 ^ 31 by omega)]
      refine ⟨fun _ => ⟨fun h => absurd (hok hb).1 (Int32.not_lt.mpr h), fun _ => ⟨vp_in_nI hk (by omega), (hok hb).2, hQ⟩⟩, fun h => absurd (Int32.le_refl _) h⟩
    · intro j hj ih
      simp only [r_il4 dX5_share_15, r_al0 dX5_share_17, r_getf dX5_share_18 F5_9, r_ic_geB (tgt := 49) dX5_share_21 rfl, r_il2 dX5_share_24, r_il4 dX5_share_25, r_ishr dX5_share_27, r_iconst dX5_share_28 ki1, r_iand dX5_share_29, r_if_eq (tgt := 43) dX5_share_30 rfl, r_il3 dX5_share_33, r_al0 dX5_share_34, r_getf dX5_share_35 F5_31, r_il4 dX5_share_38, r_iald dX5_share_40, r_iadd dX5_share_41, r_is3 dX5_share_42, r_ii4 dX5_share_43 kn1, r_gotoB (tgt := 15) dX5_share_46 rfl, List.cons_append, List.nil_append, Nat.reduceAdd, Option.toList, aI_ok, cat_f, cat_i, cat_n, cat_r, eq_self, g5_0, g5_6, true_and, z0, rd_own hP.r, rd_own hP.r6, hn, tst0 (show j < 32 by omega)]
      simp (disch := omega) only [E2, nI_1, nI_add, nI_leI, nI_ltI, nI_eq, nI_clamp]
      have hij := vp_in_nI (show j < 10 by omega) (by omega)
      unfold totv at ih
      grind
  · rw [if_neg (by simpa using hb)] at hQ
    exact hQ
theorem c_addInt {z : Int32} {F : Nat → Int32} (hP : TP hm p u A) (hn : u 0 = nI n) (hn9 : n + 4 ≤ 900) (hQ : ∀ hm' A', TP hm' p (upd u 0 (nI (n + 4))) A' → (∀ q, A' 1 q = if n ≤ q ∧ q < n + 4 then (z >>> (nI (24 - 8 * (q - n)) &&& 31)) &&& 255 else A 1 q) → sm p (p + 2) hm hm' → Q none hm' hs) : CC X EV (d + 1) 98 [.ref p, .int z] hm hs Q := by
  refine c_of (ls2 := [.ref p, .int z, .null]) Y98 (Nat.le_of_ble_eq_true rfl) rfl I98 ?_
  simp only [r_bipush dX8_addInt_0 kb24, r_is2 dX8_addInt_2, List.cons_append, List.nil_append, Nat.reduceAdd, Option.toList, cat_f, cat_i, cat_n, cat_r, eq_self, true_and, z0]
  suffices H : ∀ k, k ≤ 4 → ∀ hm' A' u', TP hm' p u' A' → u' 0 = nI (n + k) → (∀ q, A' 1 q = if n ≤ q ∧ q < n + k then (z >>> (nI (24 - 8 * (q - n)) &&& 31)) &&& 255 else A 1 q) → sm p (p + 2) hm hm' → E1 X EV d 8 0 0 none false cX8_addInt Q 3 [.ref p, .int z, .int (nI 24 - nI (8 * k))] [] 0 0 hm' hs from
    H 0 (by omega) hm A u hP hn (fun q => by grind) sm.rf
  refine up_loop 4 _ ?_ ?_
  · intro hm' A' u' hP' h0 h1 h2
    simp (disch := first | omega | (simp only [List.length_cons, List.length_nil]; omega)) only [r_il2 dX8_addInt_3, r_if_lt (tgt := 39) dX8_addInt_4 rfl, r_al0 dX8_addInt_7, r_getf dX8_addInt_8 F8_15, r_al0 dX8_addInt_11, r_getf dX8_addInt_12 F8_9, r_il1 dX8_addInt_15, r_il2 dX8_addInt_16, r_ishr dX8_addInt_17, r_sipush dX8_addInt_18 ks255, r_iand dX8_addInt_21, r_iast dX8_addInt_22, r_al0 dX8_addInt_23, r_dup_i dX8_addInt_24, r_dup_r dX8_addInt_24, r_getf dX8_addInt_25 F8_9, r_iconst dX8_addInt_28 ki1, r_iadd dX8_addInt_29, r_putf dX8_addInt_30 F8_9, r_ii2 dX8_addInt_33 knm8, r_gotoB (tgt := 3) dX8_addInt_36 rfl, r_vret dX8_addInt_39 (Nat.zero_le _) (Nat.zero_le _), List.cons_append, List.nil_append, Nat.reduceAdd, Option.toList, cat_f, cat_i, cat_n, cat_r, eq_self, fit_i, ft8_0, g8_0, g8_1, p8_0, pk_un, pk_us, rd_up_eq, rd_up_ne, sI_ok, true_and, up_eq, up_ne, up_up, z0, hP'.r, rd_own hP'.r, hP'.r, rd_own hP'.r]
    refine ⟨fun _ => hQ hm' A' ?_ h1 h2, fun h => absurd (by decide) h⟩
    have : fs_TP p u' = fs_TP p (upd u 0 (nI (n + 4))) := by unfold fs_TP; rw [h0, pk_us]
    exact ⟨by rw [← this]; exact hP'.r, hP'.r1⟩
  · intro k hk ih hm' A' u' hP' h0 h1 h2
    have e : nI 24 - nI (8 * k) = nI (24 - 8 * k) := pk_sub (by omega)
    rw [e]
    simp (disch := first | omega | (simp only [List.length_cons, List.length_nil]; omega)) only [r_il2 dX8_addInt_3, r_if_lt (tgt := 39) dX8_addInt_4 rfl, r_al0 dX8_addInt_7, r_getf dX8_addInt_8 F8_15, r_al0 dX8_addInt_11, r_getf dX8_addInt_12 F8_9, r_il1 dX8_addInt_15, r_il2 dX8_addInt_16, r_ishr dX8_addInt_17, r_sipush dX8_addInt_18 ks255, r_iand dX8_addInt_21, r_iast dX8_addInt_22, r_al0 dX8_addInt_23, r_dup_i dX8_addInt_24, r_dup_r dX8_addInt_24, r_getf dX8_addInt_25 F8_9, r_iconst dX8_addInt_28 ki1, r_iadd dX8_addInt_29, r_putf dX8_addInt_30 F8_9, r_ii2 dX8_addInt_33 knm8, r_gotoB (tgt := 3) dX8_addInt_36 rfl, r_vret dX8_addInt_39 (Nat.zero_le _) (Nat.zero_le _), List.cons_append, List.nil_append, Nat.reduceAdd, Option.toList, cat_f, cat_i, cat_n, cat_r, eq_self, fit_i, ft8_0, g8_0, g8_1, p8_0, pk_un, pk_us, rd_up_eq, rd_up_ne, sI_ok, true_and, up_eq, up_ne, up_up, z0, hP'.r, rd_own hP'.r, hP'.r1, rd_own hP'.r1, h0, nI_clamp (show n + k < 2 ^ 31 by omega)]
    refine ⟨fun h => absurd h (nI_pos (by omega)), fun _ => ⟨vp_in_nI (by omega) (by omega), ?_⟩⟩
    have e2 : nI (24 - 8 * k) + (-8) = nI 24 - nI (8 * (k + 1)) := by
      rw [← pk_sub (by omega), show 8 * (k + 1) = 8 * k + 8 by omega, ← nI_add]
      have : nI 8 = 8 := rfl
      rw [this]
      generalize nI (8 * k) = y
      generalize nI 24 = t
      grind
    rw [e2]
    refine ih _ _ _ ((hP'.w1 _).o _) (by rw [pk_us, nI_1]; congr 1) (fun q => ?_) ((h2.up (by omega)).up (by omega))
    rw [vu_eq]
    unfold upd
    by_cases hq : q = n + k
    · subst hq
      rw [if_pos rfl, if_pos (by omega), show n + k - n = k by omega]
    · rw [if_neg hq, h1 q]
      grind
theorem c_actAdd {k a b : Int32} {z : Nat} (hP : AC hm p u A) (hz : u 1 = nI z) (hz12 : z < 12) (hn : u 0 = nI n) (hn12 : n ≤ 12) (hQ : ∀ hm', AC hm' p (upd (upd u 1 (nI ((z + 1) % 12))) 0 (nI (min (n + 1) 12))) (va_up (va_up (va_up A 2 (upd (A 2) z k)) 3 (upd (A 3) z a)) 4 (upd (A 4) z b)) → sm p (p + 4) hm hm' → Q none hm' hs) : CC X EV (d + 1) 1 [.ref p, .int k, .int a, .int b] hm hs Q := by
  have hin := vp_in_nI hz12 (by omega)
  refine c_of (ls2 := [.ref p, .int k, .int a, .int b]) Y1 (Nat.le_of_ble_eq_true rfl) rfl I1 ?_
  simp (disch := first | omega | (simp only [List.length_cons, List.length_nil]; omega)) only [r_al0 dX0_add_0, r_getf dX0_add_1 F0_18, r_al0 dX0_add_4, r_getf dX0_add_5 F0_15, r_il1 dX0_add_8, r_iast dX0_add_9, r_al0 dX0_add_10, r_getf dX0_add_11 F0_22, r_al0 dX0_add_14, r_getf dX0_add_15 F0_15, r_il2 dX0_add_18, r_iast dX0_add_19, r_al0 dX0_add_20, r_getf dX0_add_21 F0_25, r_al0 dX0_add_24, r_getf dX0_add_25 F0_15, r_il3 dX0_add_28, r_iast dX0_add_29, r_al0 dX0_add_30, r_al0 dX0_add_31, r_getf dX0_add_32 F0_15, r_iconst dX0_add_35 ki1, r_iadd dX0_add_36, r_bipush dX0_add_37 kb12, r_irem dX0_add_39, r_putf dX0_add_40 F0_15, r_al0 dX0_add_43, r_al0 dX0_add_44, r_getf dX0_add_45 F0_9, r_iconst dX0_add_48 ki1, r_iadd dX0_add_49, r_bipush dX0_add_50 kb12, r_min dX0_add_52 M0_28, r_putf dX0_add_55 F0_9, r_vret dX0_add_58 (Nat.zero_le _) (Nat.zero_le _), List.cons_append, List.length_cons, List.length_nil, List.nil_append, Nat.le_refl, Nat.reduceAdd, Nat.reduceLeDiff, Nat.zero_le, Option.toList, fit_i, ft0_0, ft0_1, g0_0, g0_1, g0_2, g0_3, g0_4, p0_0, p0_1, pk_un, pk_us, rd_up_eq, rd_up_ne, sI_ok, true_and, up_eq, up_ne, up_up, z0, hP.r, rd_own hP.r, hP.r2, rd_own hP.r2, hP.r3, rd_own hP.r3, hP.r4, rd_own hP.r4, hz, hn, nI_clamp (show z < 2 ^ 31 by omega)]
  have e1 : nI z + 1 - (nI z + 1) / 12 * 12 = nI ((z + 1) % 12) := by rw [nI_1]; exact pk_rem (d := 12) (by omega) (by omega) (by omega)
  have e2 : (if (12 : Int32) < nI n + 1 then (12 : Int32) else nI n + 1) = nI (min (n + 1) 12) := by
    rw [nI_1, show (12 : Int32) = nI 12 from rfl]
    by_cases h : 12 < n + 1
    · rw [if_pos (nI_lt h (by omega)), Nat.min_eq_right (by omega)]
    · rw [if_neg (nI_nlt (by omega) (by omega)), Nat.min_eq_left (by omega)]
  rw [e1, e2]
  exact ⟨hin, hin, hin, by decide, hQ _ ((((hP.w2 _).w3 _).w4 _).o _) ((((sm.rf.up (by omega)).up (by omega)).up (by omega)).up (by omega))⟩
theorem c_takeLatest {z : Nat} (hP : AC hm p u A) (hz : u 1 = nI z) (hz12 : z < 12) (hQ : ∀ hm', AC hm' p (upd (upd u 1 (nI ((z + 11) % 12))) 0 (u 0 - 1)) A → sm p (p + 4) hm hm' → Q (some (.int (nI ((z + 11) % 12)))) hm' hs) : CC X EV (d + 1) 2 [.ref p] hm hs Q := by
  refine c_of (ls2 := [.ref p]) Y2 (Nat.le_of_ble_eq_true rfl) rfl I2 ?_
  simp (disch := first | omega | (simp only [List.length_cons, List.length_nil]; omega)) only [r_al0 dX0_takeLatest_0, r_al0 dX0_takeLatest_1, r_getf dX0_takeLatest_2 F0_15, r_bipush dX0_takeLatest_5 kb12, r_iadd dX0_takeLatest_7, r_iconst dX0_takeLatest_8 ki1, r_isub dX0_takeLatest_9, r_bipush dX0_takeLatest_10 kb12, r_irem dX0_takeLatest_12, r_putf dX0_takeLatest_13 F0_15, r_al0 dX0_takeLatest_16, r_dup_i dX0_takeLatest_17, r_dup_r dX0_takeLatest_17, r_getf dX0_takeLatest_18 F0_9, r_iconst dX0_takeLatest_21 ki1, r_isub dX0_takeLatest_22, r_putf dX0_takeLatest_23 F0_9, r_al0 dX0_takeLatest_26, r_getf dX0_takeLatest_27 F0_15, r_iret dX0_takeLatest_30 (Nat.zero_le _) (Nat.zero_le _), List.cons_append, List.nil_append, Nat.reduceAdd, Option.toList, fit_i, ft0_0, ft0_1, g0_0, g0_1, p0_0, p0_1, pk_un, pk_us, rd_up_eq, rd_up_ne, true_and, up_eq, up_ne, up_up, z0, hP.r, rd_own hP.r, hP.r, rd_own hP.r, hz]
  have e1 : nI z + 12 - 1 - (nI z + 12 - 1) / 12 * 12 = nI ((z + 11) % 12) := by
    rw [show nI z + 12 - 1 = nI (z + 11) by rw [← nI_add]; show nI z + 12 - 1 = nI z + 11; grind]
    exact pk_rem (d := 12) (by omega) (by omega) (by omega)
  rw [e1]
  exact ⟨by decide, hQ _ (hP.o _) (sm.rf.up (by omega))⟩
theorem c_rowStart {so z : Int32} (hP : RW hm p u A) (hQ : ∀ hm' A', RW hm' p (upd (upd (upd u 0 1) 1 so) 2 z) A' → (∀ q, q < 12 → A' 3 q = 0) → sm p (p + 2) hm hm' → Q none hm' hs) : CC X EV (d + 1) 59 [.ref p, .int so, .int z] hm hs Q := by
  refine c_of (ls2 := [.ref p, .int so, .int z, .null]) Y59 (Nat.le_of_ble_eq_true rfl) rfl I59 ?_
  simp (disch := first | omega | (simp only [List.length_cons, List.length_nil]; omega)) only [r_al0 dX4_start_0, r_iconst dX4_start_1 ki1, r_putf dX4_start_2 F4_9, r_al0 dX4_start_5, r_il1 dX4_start_6, r_putf dX4_start_7 F4_15, r_al0 dX4_start_10, r_il2 dX4_start_11, r_putf dX4_start_12 F4_19, r_iconst dX4_start_15 ki0, r_is3 dX4_start_16, List.cons_append, List.nil_append, Nat.reduceAdd, Option.toList, cat_f, cat_i, cat_n, cat_r, eq_self, fit_i, fit_z0, fit_z1, ft4_0, ft4_1, ft4_2, p4_0, p4_1, p4_2, pk_un, pk_us, rd_up_eq, rd_up_ne, true_and, up_eq, up_ne, up_up, z0, hP.r, rd_own hP.r, hP.r, rd_own hP.r]
  have hP1 := hP.o (upd (upd (upd u 0 1) 1 so) 2 z)
  generalize upd (upd (upd u 0 1) 1 so) 2 z = u1 at hP1 hQ ⊢
  suffices H : ∀ k, k ≤ 12 → ∀ hm' A', RW hm' p u1 A' → (∀ q, q < k → A' 3 q = 0) → sm p (p + 2) hm hm' → E1 X EV d 4 0 0 none false cX4_start Q 17 [.ref p, .int so, .int z, .int (nI k)] [] 0 0 hm' hs from
    H 0 (by omega) _ A hP1 (fun q hq => absurd hq (Nat.not_lt_zero q)) (sm.rf.up (by omega))
  refine up_loop 12 _ ?_ ?_
  · intro hm' A' hP' h2 h3
    simp (disch := first | omega | (simp only [List.length_cons, List.length_nil]; omega)) only [r_il3 dX4_start_17, r_bipush dX4_start_18 kb12, r_ic_ge (tgt := 36) dX4_start_20 rfl, r_al0 dX4_start_23, r_getf dX4_start_24 F4_22, r_il3 dX4_start_27, r_iconst dX4_start_28 ki0, r_iast dX4_start_29, r_ii3 dX4_start_30 kn1, r_gotoB (tgt := 17) dX4_start_33 rfl, r_vret dX4_start_36 (Nat.zero_le _) (Nat.zero_le _), List.cons_append, List.nil_append, Nat.reduceAdd, Option.toList, cat_f, cat_i, cat_n, cat_r, eq_self, g4_3, pk_un, pk_us, rd_up_eq, rd_up_ne, sI_ok, true_and, up_eq, up_ne, up_up, z0, show (12 : Int32) = nI 12 from rfl]
    exact ⟨fun _ => hQ hm' A' hP' h2 h3, fun h => absurd (Int32.le_refl _) h⟩
  · intro k hk ih hm' A' hP' h2 h3
    simp (disch := first | omega | (simp only [List.length_cons, List.length_nil]; omega)) only [r_il3 dX4_start_17, r_bipush dX4_start_18 kb12, r_ic_ge (tgt := 36) dX4_start_20 rfl, r_al0 dX4_start_23, r_getf dX4_start_24 F4_22, r_il3 dX4_start_27, r_iconst dX4_start_28 ki0, r_iast dX4_start_29, r_ii3 dX4_start_30 kn1, r_gotoB (tgt := 17) dX4_start_33 rfl, r_vret dX4_start_36 (Nat.zero_le _) (Nat.zero_le _), List.cons_append, List.nil_append, Nat.reduceAdd, Option.toList, cat_f, cat_i, cat_n, cat_r, eq_self, g4_3, pk_un, pk_us, rd_up_eq, rd_up_ne, sI_ok, true_and, up_eq, up_ne, up_up, z0, hP'.r, rd_own hP'.r, hP'.r3, rd_own hP'.r3, show (12 : Int32) = nI 12 from rfl]
    simp (disch := omega) only [E2, nI_1, nI_add, nI_leI, nI_ltI, nI_eq, nI_clamp]
    refine ⟨fun h => absurd h (by omega), fun _ => ⟨vp_in_nI hk (by omega), ?_⟩⟩
    refine ih _ _ (hP'.w3 _) (fun q hq => ?_) (h3.up (by omega))
    rw [vu_eq]; unfold upd; grind
theorem c_cut {v : Int32} (hP : RW hm p u A) (hQ : Q (some (.int (if u 1 = 0 then v.toInt16.toInt32 else v))) hm hs) : CC X EV (d + 1) 60 [.ref p, .int v] hm hs Q := by
  refine c_of (ls2 := [.ref p, .int v]) Y60 (Nat.le_of_ble_eq_true rfl) rfl I60 ?_
  simp only [r_al0 dX4_cut_0, r_getf dX4_cut_1 F4_15, r_if_ne (tgt := 12) dX4_cut_4 rfl, r_il1 dX4_cut_7, r_i2s dX4_cut_8, r_goto (tgt := 13) dX4_cut_9 rfl, r_il1 dX4_cut_12, r_iret dX4_cut_13 (Nat.zero_le _) (Nat.zero_le _), List.cons_append, List.nil_append, Nat.reduceAdd, Option.toList, g4_1, z0, rd_own hP.r]
  grind
theorem c_hasPart {a b : Int32} (hP : RW hm p u A) (hQ : Q (some (.int (if (0 ≤ b ∧ b ≤ u 2) ∧ (0 ≤ a ∧ a ≤ u 2 - b) then 1 else 0))) hm hs) : CC X EV (d + 1) 61 [.ref p, .int a, .int b] hm hs Q := by
  refine c_of (ls2 := [.ref p, .int a, .int b]) Y61 (Nat.le_of_ble_eq_true rfl) rfl I61 ?_
  simp only [r_il2 dX4_hasPart_0, r_if_lt (tgt := 30) dX4_hasPart_1 rfl, r_il2 dX4_hasPart_4, r_al0 dX4_hasPart_5, r_getf dX4_hasPart_6 F4_19, r_ic_gt (tgt := 30) dX4_hasPart_9 rfl, r_il1 dX4_hasPart_12, r_if_lt (tgt := 30) dX4_hasPart_13 rfl, r_il1 dX4_hasPart_16, r_al0 dX4_hasPart_17, r_getf dX4_hasPart_18 F4_19, r_il2 dX4_hasPart_21, r_isub dX4_hasPart_22, r_ic_gt (tgt := 30) dX4_hasPart_23 rfl, r_iconst dX4_hasPart_26 ki1, r_goto (tgt := 31) dX4_hasPart_27 rfl, r_iconst dX4_hasPart_30 ki0, r_zret0 dX4_hasPart_31 (Nat.zero_le _) (Nat.zero_le _), r_zret1 dX4_hasPart_31 (Nat.zero_le _) (Nat.zero_le _), r_zretc dX4_hasPart_31 (Nat.zero_le _) (Nat.zero_le _), List.cons_append, List.nil_append, Nat.reduceAdd, Option.toList, g4_2, z0, rd_own hP.r]
  have hQ := zq hQ
  grind
end S2
