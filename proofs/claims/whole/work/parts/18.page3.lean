/-! ===== Page: the rest ===== -/
def sumI (f : Nat → Int32) : Nat → Int32
  | 0 => 0
  | k + 1 => sumI f k + f k
/-- the i-th of the order, and what is there ahead of it -/
def ordv (bl : Nat → Int32) (n : Nat) : Nat → Int32
  | 0 => 0
  | i + 1 => ordv bl n i ||| lobit (rdy bl (ordv bl n i) n)
theorem XT.rd {X : HM} {EV : Nat → Value} {B : Nat} {hm : HM} (h : XT X EV B) (hl : lowN B hm) : ∃ a b, EV 0 = .ref a ∧ EV 1 = .ref b ∧ im_rd X hm a = some (ia 4 (fun k => mstX (nI k))) ∧ im_rd X hm b = some (ia 4 (fun k => mstY (nI k))) := by
  obtain ⟨a, b, h1, h2, h3, h4, h5, h6⟩ := h
  exact ⟨a, b, h1, h2, by rw [rd_ext (hl a h3)]; exact h5, by rw [rd_ext (hl b h4)]; exact h6⟩
section P3
variable {X : HM} {EV : Nat → Value} {d : Nat} {hm : HM} {hs : Nat} {Q : QT} {p : Nat} {u : Nat → Int32} {A : Nat → Nat → Int32} {B n : Nat}
theorem c_lookAt {x y ml sc : Int32} {w h : Nat} (hP : PG hm p u A) (h0 : u 0 = nI w) (h1 : u 1 = nI h) (hw : w ≤ 24) (hh : h ≤ 12) (hn : u 2 = nI n) (hn12 : n ≤ 12)
    (hQ : Q (some (.int (lkv (fun i => seenv (A 12) n (sAt u A (x + nI (i % 3)) (y + nI (i / 3)) &&& (sc ^^^ (-1))) ml) 9))) hm hs) : CC X EV (d + 3) 34 [.ref p, .int x, .int y, .int ml, .int sc] hm hs Q := by
  refine c_of (ls2 := [.ref p, .int x, .int y, .int ml, .int sc, .null, .null, .null, .null]) Y34 (Nat.le_of_ble_eq_true rfl) rfl I34 ?_
  simp only [r_iconst dX1_lookAt_0 ki0, r_is5 dX1_lookAt_1, r_iconst dX1_lookAt_3 ki0, r_is6 dX1_lookAt_4, List.cons_append, List.nil_append, Nat.reduceAdd, Option.toList, cat_f, cat_i, cat_n, cat_r, eq_self, true_and, z0]
  suffices H : ∀ k, k ≤ 9 → ∀ a b, E1 X EV (d + 2) 1 0 0 (some .int) false cX1_lookAt Q 6 [.ref p, .int x, .int y, .int ml, .int sc, .int (lkv (fun i => seenv (A 12) n (sAt u A (x + nI (i % 3)) (y + nI (i / 3)) &&& (sc ^^^ (-1))) ml) k), .int (nI k), a, b] [] 0 0 hm hs from H 0 (by omega) _ _
  refine up_loop 9 _ ?_ ?_
  · intro a b
    simp only [r_il6 dX1_lookAt_6, r_bipush dX1_lookAt_8 kb9, r_ic_ge (tgt := 83) dX1_lookAt_10 rfl, r_al0 dX1_lookAt_13, r_il1 dX1_lookAt_14, r_il6 dX1_lookAt_15, r_iconst dX1_lookAt_17 ki3, r_irem dX1_lookAt_18, r_iadd dX1_lookAt_19, r_il2 dX1_lookAt_20, r_il6 dX1_lookAt_21, r_iconst dX1_lookAt_23 ki3, r_idiv dX1_lookAt_24, r_iadd dX1_lookAt_25, r_il5 dX1_lookAt_83, r_iret dX1_lookAt_85 (Nat.zero_le _) (Nat.zero_le _), List.cons_append, List.nil_append, Nat.reduceAdd, Option.toList, z0, show (9 : Int32) = nI 9 from rfl]
    exact ⟨fun _ => hQ, fun h => absurd (Int32.le_refl _) h⟩
  · intro k hk ih a b
    simp only [r_il6 dX1_lookAt_6, r_bipush dX1_lookAt_8 kb9, r_ic_ge (tgt := 83) dX1_lookAt_10 rfl, r_al0 dX1_lookAt_13, r_il1 dX1_lookAt_14, r_il6 dX1_lookAt_15, r_iconst dX1_lookAt_17 ki3, r_irem dX1_lookAt_18, r_iadd dX1_lookAt_19, r_il2 dX1_lookAt_20, r_il6 dX1_lookAt_21, r_iconst dX1_lookAt_23 ki3, r_idiv dX1_lookAt_24, r_iadd dX1_lookAt_25, r_il5 dX1_lookAt_83, r_iret dX1_lookAt_85 (Nat.zero_le _) (Nat.zero_le _), List.cons_append, List.nil_append, Nat.reduceAdd, Option.toList, z0, show (9 : Int32) = nI 9 from rfl]
    simp (disch := omega) only [E2, nI_1, nI_add, nI_leI, nI_ltI, nI_eq, nI_clamp]
    have e1 : nI k - nI k / 3 * 3 = nI (k % 3) := pk_rem (d := 3) (by omega) (by omega) (by omega)
    have e2 : nI k / 3 = nI (k / 3) := pk_div (d := 3) (by omega) (by omega) (by omega)
    refine ⟨fun h => absurd h (by omega), fun _ => ⟨by decide, by decide, ?_⟩⟩
    rw [e1, e2]
    refine r_iv3 dX1_lookAt_26 M1_72 Y9 O9 (Nat.le_of_ble_eq_true rfl) (rcv_own hP.r) (Nat.le_refl _) (Nat.le_refl _) ?_
    refine c_strokesAt hP h0 h1 hw hh ?_
    simp only [r_il4 dX1_lookAt_29, r_iconst dX1_lookAt_31 kim1, r_ixor dX1_lookAt_32, r_iand dX1_lookAt_33, r_is7 dX1_lookAt_34, r_al0 dX1_lookAt_36, r_il7 dX1_lookAt_37, r_il3 dX1_lookAt_39, List.cons_append, List.nil_append, Nat.reduceAdd, Option.toList, cat_f, cat_i, cat_n, cat_r, eq_self, true_and, z0]
    refine r_iv3 dX1_lookAt_40 M1_112 Y33 O33 (Nat.le_of_ble_eq_true rfl) (rcv_own hP.r) (Nat.le_refl _) (Nat.le_refl _) ?_
    refine c_seenOf hP hn hn12 ?_
    simp only [r_is8 dX1_lookAt_43, r_il8 dX1_lookAt_45, r_if_ne (tgt := 59) dX1_lookAt_47 rfl, r_il5 dX1_lookAt_50, r_iconst dX1_lookAt_52 ki1, r_il6 dX1_lookAt_53, r_ishl dX1_lookAt_55, r_ior dX1_lookAt_56, r_is5 dX1_lookAt_57, r_il8 dX1_lookAt_59, r_iconst dX1_lookAt_61 ki1, r_ic_ne (tgt := 77) dX1_lookAt_62 rfl, r_il5 dX1_lookAt_65, r_iconst dX1_lookAt_67 ki1, r_il6 dX1_lookAt_68, r_bipush dX1_lookAt_70 kb9, r_iadd dX1_lookAt_72, r_ishl dX1_lookAt_73, r_ior dX1_lookAt_74, r_is5 dX1_lookAt_75, r_ii6 dX1_lookAt_77 kn1, r_gotoB (tgt := 6) dX1_lookAt_80 rfl, List.cons_append, List.nil_append, Nat.reduceAdd, Option.toList, cat_f, cat_i, cat_n, cat_r, eq_self, true_and, z0, show (9 : Int32) = nI 9 from rfl]
    simp (disch := omega) only [E2, nI_1, nI_add, nI_leI, nI_ltI, nI_eq, nI_clamp]
    unfold lkv sb at ih
    generalize seenv (A 12) n (sAt u A (x + nI (k % 3)) (y + nI (k / 3)) &&& (sc ^^^ (-1))) ml = z at ih ⊢
    grind
theorem c_countCrossings (hP : PG hm p u A) (hn : u 2 = nI n) (hn12 : n ≤ 12) (hQ : Q (some (.int (sumI (fun k => pcnt (A 10 k)) n / 2))) hm hs) : CC X EV (d + 2) 13 [.ref p] hm hs Q := by
  refine c_of (ls2 := [.ref p, .null, .null]) Y13 (Nat.le_of_ble_eq_true rfl) rfl I13 ?_
  simp only [r_iconst dX1_countCrossings_0 ki0, r_is1 dX1_countCrossings_1, r_iconst dX1_countCrossings_2 ki0, r_is2 dX1_countCrossings_3, List.cons_append, List.nil_append, Nat.reduceAdd, Option.toList, cat_f, cat_i, cat_n, cat_r, eq_self, true_and, z0]
  refine up_loop n (fun k => E1 X EV (d + 1) 1 0 0 (some .int) false cX1_countCrossings Q 4 [.ref p, .int (sumI (fun k => pcnt (A 10 k)) k), .int (nI k)] [] 0 0 hm hs) ?_ ?_ 0 (Nat.zero_le n)
  · skip
    simp only [r_il2 dX1_countCrossings_4, r_al0 dX1_countCrossings_5, r_getf dX1_countCrossings_6 F1_18, r_ic_ge (tgt := 30) dX1_countCrossings_9 rfl, r_il1 dX1_countCrossings_12, r_al0 dX1_countCrossings_13, r_getf dX1_countCrossings_14 F1_43, r_il2 dX1_countCrossings_17, r_iald dX1_countCrossings_18, r_il1 dX1_countCrossings_30, r_iconst dX1_countCrossings_31 ki2, r_idiv dX1_countCrossings_32, r_iret dX1_countCrossings_33 (Nat.zero_le _) (Nat.zero_le _), List.cons_append, List.nil_append, Nat.reduceAdd, Option.toList, aI_ok, g1_10, g1_2, z0, rd_own hP.r, hn]
    exact ⟨fun _ => ⟨by decide, hQ⟩, fun h => absurd (Int32.le_refl _) h⟩
  · intro k hk ih
    simp only [r_il2 dX1_countCrossings_4, r_al0 dX1_countCrossings_5, r_getf dX1_countCrossings_6 F1_18, r_ic_ge (tgt := 30) dX1_countCrossings_9 rfl, r_il1 dX1_countCrossings_12, r_al0 dX1_countCrossings_13, r_getf dX1_countCrossings_14 F1_43, r_il2 dX1_countCrossings_17, r_iald dX1_countCrossings_18, r_il1 dX1_countCrossings_30, r_iconst dX1_countCrossings_31 ki2, r_idiv dX1_countCrossings_32, r_iret dX1_countCrossings_33 (Nat.zero_le _) (Nat.zero_le _), List.cons_append, List.nil_append, Nat.reduceAdd, Option.toList, aI_ok, g1_10, g1_2, z0, rd_own hP.r, rd_own hP.r10, hn]
    simp (disch := omega) only [E2, nI_1, nI_add, nI_leI, nI_ltI, nI_eq, nI_clamp]
    refine ⟨fun h => absurd h (by omega), fun _ => ⟨vp_in_nI (by omega) (by omega), ?_⟩⟩
    refine r_ist1 dX1_countCrossings_19 M1_76 Y263 (Nat.le_of_ble_eq_true rfl) (Nat.le_refl _) (Nat.le_refl _) ?_
    refine c_bitCount ?_
    simp only [r_iadd dX1_countCrossings_22, r_is1 dX1_countCrossings_23, r_ii2 dX1_countCrossings_24 kn1, r_gotoB (tgt := 4) dX1_countCrossings_27 rfl, List.cons_append, List.nil_append, Nat.reduceAdd, Option.toList, cat_f, cat_i, cat_n, cat_r, eq_self, true_and, z0]
    simp (disch := omega) only [E2, nI_1, nI_add, nI_leI, nI_ltI, nI_eq, nI_clamp]
    exact ih
theorem c_strokeInOrder {i : Nat} (hP : PG hm p u A) (hn : u 2 = nI n) (hn12 : n ≤ 12) (hi : i < 12) (hQ : Q (some (.int (ntz (rdy (A 12) (ordv (A 12) n i) n)))) hm hs) : CC X EV (d + 2) 29 [.ref p, .int (nI i)] hm hs Q := by
  refine c_of (ls2 := [.ref p, .int (nI i), .null, .null]) Y29 (Nat.le_of_ble_eq_true rfl) rfl I29 ?_
  simp only [r_iconst dX1_strokeInOrder_0 ki0, r_is2 dX1_strokeInOrder_1, r_iconst dX1_strokeInOrder_2 ki0, r_is3 dX1_strokeInOrder_3, List.cons_append, List.nil_append, Nat.reduceAdd, Option.toList, cat_f, cat_i, cat_n, cat_r, eq_self, true_and, z0]
  refine up_loop i (fun k => E1 X EV (d + 1) 1 0 0 (some .int) false cX1_strokeInOrder Q 4 [.ref p, .int (nI i), .int (ordv (A 12) n k), .int (nI k)] [] 0 0 hm hs) ?_ ?_ 0 (Nat.zero_le i)
  · skip
    simp only [r_il3 dX1_strokeInOrder_4, r_il1 dX1_strokeInOrder_5, r_ic_ge (tgt := 26) dX1_strokeInOrder_6 rfl, r_il2 dX1_strokeInOrder_9, r_al0 dX1_strokeInOrder_10, r_il2 dX1_strokeInOrder_11, r_al0 dX1_strokeInOrder_26, r_il2 dX1_strokeInOrder_27, List.cons_append, List.nil_append, Nat.reduceAdd, Option.toList, z0]
    refine ⟨fun _ => ?_, fun h => absurd (Int32.le_refl _) h⟩
    refine r_iv2 dX1_strokeInOrder_28 M1_92 Y28 O28 (Nat.le_of_ble_eq_true rfl) (rcv_own hP.r) (Nat.le_refl _) (Nat.le_refl _) ?_
    refine c_readyAfter hP hn hn12 ?_
    simp only [List.cons_append, List.nil_append, Nat.reduceAdd, Option.toList, z0]
    refine r_ist1 dX1_strokeInOrder_31 M1_98 Y262 (Nat.le_of_ble_eq_true rfl) (Nat.le_refl _) (Nat.le_refl _) ?_
    refine c_ntz ?_
    simp only [r_iret dX1_strokeInOrder_34 (Nat.zero_le _) (Nat.zero_le _), List.cons_append, List.nil_append, Nat.reduceAdd, Option.toList, z0]
    exact hQ
  · intro k hk ih
    simp only [r_il3 dX1_strokeInOrder_4, r_il1 dX1_strokeInOrder_5, r_ic_ge (tgt := 26) dX1_strokeInOrder_6 rfl, r_il2 dX1_strokeInOrder_9, r_al0 dX1_strokeInOrder_10, r_il2 dX1_strokeInOrder_11, r_al0 dX1_strokeInOrder_26, r_il2 dX1_strokeInOrder_27, List.cons_append, List.nil_append, Nat.reduceAdd, Option.toList, z0]
    simp (disch := omega) only [E2, nI_1, nI_add, nI_leI, nI_ltI, nI_eq, nI_clamp]
    refine ⟨fun h => absurd h (by omega), fun _ => ?_⟩
    refine r_iv2 dX1_strokeInOrder_12 M1_92 Y28 O28 (Nat.le_of_ble_eq_true rfl) (rcv_own hP.r) (Nat.le_refl _) (Nat.le_refl _) ?_
    refine c_readyAfter hP hn hn12 ?_
    simp only [List.cons_append, List.nil_append, Nat.reduceAdd, Option.toList, z0]
    refine r_ist1 dX1_strokeInOrder_15 M1_95 Y261 (Nat.le_of_ble_eq_true rfl) (Nat.le_refl _) (Nat.le_refl _) ?_
    refine c_lowestOneBit ?_
    simp only [r_ior dX1_strokeInOrder_18, r_is2 dX1_strokeInOrder_19, r_ii3 dX1_strokeInOrder_20 kn1, r_gotoB (tgt := 4) dX1_strokeInOrder_23 rfl, List.cons_append, List.nil_append, Nat.reduceAdd, Option.toList, cat_f, cat_i, cat_n, cat_r, eq_self, true_and, z0]
    simp (disch := omega) only [E2, nI_1, nI_add, nI_leI, nI_ltI, nI_eq, nI_clamp]
    exact ih
theorem c_hasRoomFor {x y len : Int32} {k : Nat} (hP : PG hm p u A) (hX : XT X EV B) (hl : lowN B hm) (hk : k < 4) (hQ : Q (some (.int (if (0 ≤ x + mstX (nI k) * (len - 1) ∧ x + mstX (nI k) * (len - 1) < u 0) ∧ (0 ≤ y + mstY (nI k) * (len - 1) ∧ y + mstY (nI k) * (len - 1) < u 1) then 1 else 0))) hm hs) : CC X EV (d + 2) 10 [.ref p, .int x, .int y, .int (nI k), .int len] hm hs Q := by
  obtain ⟨a, b, ea, eb, ra, rb⟩ := hX.rd hl
  refine c_of (ls2 := [.ref p, .int x, .int y, .int (nI k), .int len]) Y10 (Nat.le_of_ble_eq_true rfl) rfl I10 ?_
  simp only [r_al0 dX1_hasRoomFor_0, r_il1 dX1_hasRoomFor_1, r_gets dX1_hasRoomFor_2 S1_66, r_il3 dX1_hasRoomFor_5, r_iald dX1_hasRoomFor_6, r_il4 dX1_hasRoomFor_7, r_iconst dX1_hasRoomFor_9 ki1, r_isub dX1_hasRoomFor_10, r_imul dX1_hasRoomFor_11, r_iadd dX1_hasRoomFor_12, r_il2 dX1_hasRoomFor_13, r_gets dX1_hasRoomFor_14 S1_69, r_il3 dX1_hasRoomFor_17, r_iald dX1_hasRoomFor_18, r_il4 dX1_hasRoomFor_19, r_iconst dX1_hasRoomFor_21 ki1, r_isub dX1_hasRoomFor_22, r_imul dX1_hasRoomFor_23, r_iadd dX1_hasRoomFor_24, List.cons_append, List.nil_append, Nat.reduceAdd, Option.toList, aI_ok, z0, ea, eb, ra, rb, nI_clamp (show k < 2 ^ 31 by omega)]
  have hin := vp_in_nI hk (by omega)
  refine ⟨hin, hin, ?_⟩
  refine r_iv3 dX1_hasRoomFor_25 M1_62 Y8 O8 (Nat.le_of_ble_eq_true rfl) (rcv_own hP.r) (Nat.le_refl _) (Nat.le_refl _) ?_
  refine c_hasCell hP ?_
  simp only [r_zret0 dX1_hasRoomFor_28 (Nat.zero_le _) (Nat.zero_le _), r_zret1 dX1_hasRoomFor_28 (Nat.zero_le _) (Nat.zero_le _), r_zretc dX1_hasRoomFor_28 (Nat.zero_le _) (Nat.zero_le _), List.cons_append, List.nil_append, Nat.reduceAdd, Option.toList, z0]
  exact hQ
theorem c_firstCommonCell {i j c l : Nat} {w h : Nat} (hP : PG hm p u A) (hX : XT X EV B) (hl : lowN B hm) (h0 : u 0 = nI w) (h1 : u 1 = nI h) (hw : w ≤ 24) (hh : h ≤ 12) (hi : i < 12) (hj : j < 32) (hc : c < 4) (ec : A 8 i = nI c) (el : A 9 i = nI l) (hl9 : l ≤ 9)
    (hQ : Q (some (.int (fstv (fun k => bt (sAt u A (A 6 i + mstX (nI c) * nI k) (A 7 i + mstY (nI c) * nI k)) j = true) (fun k => 100 * (A 7 i + mstY (nI c) * nI k) + (A 6 i + mstX (nI c) * nI k)) l))) hm hs) : CC X EV (d + 3) 12 [.ref p, .int (nI i), .int (nI j)] hm hs Q := by
  obtain ⟨a, b, ea, eb, ra, rb⟩ := hX.rd hl
  have hin := vp_in_nI hi (by omega)
  have hin4 := vp_in_nI hc (by omega)
  refine c_of (ls2 := [.ref p, .int (nI i), .int (nI j), .null, .null, .null]) Y12 (Nat.le_of_ble_eq_true rfl) rfl I12 ?_
  simp only [r_iconst dX1_firstCommonCell_0 ki0, r_is3 dX1_firstCommonCell_1, List.cons_append, List.nil_append, Nat.reduceAdd, Option.toList, cat_f, cat_i, cat_n, cat_r, eq_self, true_and, z0]
  suffices H : ∀ k, k ≤ l → (∀ q, q < k → ¬ bt (sAt u A (A 6 i + mstX (nI c) * nI q) (A 7 i + mstY (nI c) * nI q)) j = true) → ∀ w1 w2, E1 X EV (d + 2) 1 0 0 (some .int) false cX1_firstCommonCell Q 2 [.ref p, .int (nI i), .int (nI j), .int (nI k), w1, w2] [] 0 0 hm hs from H 0 (by omega) (fun q hq => absurd hq (Nat.not_lt_zero q)) _ _
  refine up_loop l _ ?_ ?_
  · intro hno w1 w2
    simp only [r_il3 dX1_firstCommonCell_2, r_al0 dX1_firstCommonCell_3, r_getf dX1_firstCommonCell_4 F1_40, r_il1 dX1_firstCommonCell_7, r_iald dX1_firstCommonCell_8, r_ic_ge (tgt := 84) dX1_firstCommonCell_9 rfl, r_al0 dX1_firstCommonCell_12, r_getf dX1_firstCommonCell_13 F1_30, r_il1 dX1_firstCommonCell_16, r_iald dX1_firstCommonCell_17, r_gets dX1_firstCommonCell_18 S1_66, r_al0 dX1_firstCommonCell_21, r_getf dX1_firstCommonCell_22 F1_37, r_il1 dX1_firstCommonCell_25, r_iald dX1_firstCommonCell_26, r_iald dX1_firstCommonCell_27, r_il3 dX1_firstCommonCell_28, r_imul dX1_firstCommonCell_29, r_iadd dX1_firstCommonCell_30, r_is4 dX1_firstCommonCell_31, r_al0 dX1_firstCommonCell_33, r_getf dX1_firstCommonCell_34 F1_34, r_il1 dX1_firstCommonCell_37, r_iald dX1_firstCommonCell_38, r_gets dX1_firstCommonCell_39 S1_69, r_al0 dX1_firstCommonCell_42, r_getf dX1_firstCommonCell_43 F1_37, r_il1 dX1_firstCommonCell_46, r_iald dX1_firstCommonCell_47, r_iald dX1_firstCommonCell_48, r_il3 dX1_firstCommonCell_49, r_imul dX1_firstCommonCell_50, r_iadd dX1_firstCommonCell_51, r_is5 dX1_firstCommonCell_52, r_al0 dX1_firstCommonCell_54, r_il4 dX1_firstCommonCell_55, r_il5 dX1_firstCommonCell_57, r_iconst dX1_firstCommonCell_84 kim1, r_iret dX1_firstCommonCell_85 (Nat.zero_le _) (Nat.zero_le _), List.cons_append, List.nil_append, Nat.reduceAdd, Option.toList, aI_ok, cat_f, cat_i, cat_n, cat_r, eq_self, g1_6, g1_7, g1_8, g1_9, true_and, z0, rd_own hP.r, rd_own hP.r9, nI_clamp (show i < 2 ^ 31 by omega), el]
    refine ⟨hin, fun _ => ?_, fun h => absurd (Int32.le_refl _) h⟩
    rw [fstv_none hno] at hQ
    exact hQ
  · intro k hk ih hno w1 w2
    have hcat1 : ∀ x : Int32, (Value.int x).category = 1 := fun _ => rfl
    by_cases hw1 : True
    · skip
      simp only [r_il3 dX1_firstCommonCell_2, r_al0 dX1_firstCommonCell_3, r_getf dX1_firstCommonCell_4 F1_40, r_il1 dX1_firstCommonCell_7, r_iald dX1_firstCommonCell_8, r_ic_ge (tgt := 84) dX1_firstCommonCell_9 rfl, r_al0 dX1_firstCommonCell_12, r_getf dX1_firstCommonCell_13 F1_30, r_il1 dX1_firstCommonCell_16, r_iald dX1_firstCommonCell_17, r_gets dX1_firstCommonCell_18 S1_66, r_al0 dX1_firstCommonCell_21, r_getf dX1_firstCommonCell_22 F1_37, r_il1 dX1_firstCommonCell_25, r_iald dX1_firstCommonCell_26, r_iald dX1_firstCommonCell_27, r_il3 dX1_firstCommonCell_28, r_imul dX1_firstCommonCell_29, r_iadd dX1_firstCommonCell_30, r_is4 dX1_firstCommonCell_31, r_al0 dX1_firstCommonCell_33, r_getf dX1_firstCommonCell_34 F1_34, r_il1 dX1_firstCommonCell_37, r_iald dX1_firstCommonCell_38, r_gets dX1_firstCommonCell_39 S1_69, r_al0 dX1_firstCommonCell_42, r_getf dX1_firstCommonCell_43 F1_37, r_il1 dX1_firstCommonCell_46, r_iald dX1_firstCommonCell_47, r_iald dX1_firstCommonCell_48, r_il3 dX1_firstCommonCell_49, r_imul dX1_firstCommonCell_50, r_iadd dX1_firstCommonCell_51, r_is5 dX1_firstCommonCell_52, r_al0 dX1_firstCommonCell_54, r_il4 dX1_firstCommonCell_55, r_il5 dX1_firstCommonCell_57, r_iconst dX1_firstCommonCell_84 kim1, r_iret dX1_firstCommonCell_85 (Nat.zero_le _) (Nat.zero_le _), List.cons_append, List.nil_append, Nat.reduceAdd, Option.toList, aI_ok, cat_f, cat_i, cat_n, cat_r, eq_self, g1_6, g1_7, g1_8, g1_9, true_and, z0, rd_own hP.r, rd_own hP.r9, rd_own hP.r6, rd_own hP.r7, rd_own hP.r8, nI_clamp (show i < 2 ^ 31 by omega), el, ec, ea, eb, ra, rb, nI_clamp (show c < 2 ^ 31 by omega)]
      simp (disch := omega) only [E2, nI_1, nI_add, nI_leI, nI_ltI, nI_eq, nI_clamp]
      refine ⟨hin, fun h => absurd h (by omega), fun _ => ⟨hin, hin, hin4, hin, hin, hin4, ?_⟩⟩
      refine r_iv3 dX1_firstCommonCell_59 M1_72 Y9 O9 (Nat.le_of_ble_eq_true rfl) (rcv_own hP.r) (Nat.le_refl _) (Nat.le_refl _) ?_
      refine c_strokesAt hP h0 h1 hw hh ?_
      simp only [r_il2 dX1_firstCommonCell_62, r_ishr dX1_firstCommonCell_63, r_iconst dX1_firstCommonCell_64 ki1, r_iand dX1_firstCommonCell_65, r_if_eq (tgt := 78) dX1_firstCommonCell_66 rfl, r_bipush dX1_firstCommonCell_69 kb100, r_il5 dX1_firstCommonCell_71, r_imul dX1_firstCommonCell_73, r_il4 dX1_firstCommonCell_74, r_iadd dX1_firstCommonCell_76, r_iret dX1_firstCommonCell_77 (Nat.zero_le _) (Nat.zero_le _), r_ii3 dX1_firstCommonCell_78 kn1, r_gotoB (tgt := 2) dX1_firstCommonCell_81 rfl, List.cons_append, List.nil_append, Nat.reduceAdd, Option.toList, cat_f, cat_i, cat_n, cat_r, eq_self, true_and, z0, tst0 hj]
      simp (disch := omega) only [E2, nI_1, nI_add, nI_leI, nI_ltI, nI_eq, nI_clamp]
      refine ⟨fun hb => ih (fun q hq => ?_) _ _, fun hb => ?_⟩
      · rcases Nat.lt_or_ge q k with h' | h'
        · exact hno q h'
        · rw [show q = k by omega, hb]; decide
      · rw [fstv_some hk (by simpa using hb) hno] at hQ
        exact hQ
    · exact absurd trivial hw1
theorem c_clear (hP : PG hm p u A) (hQ : ∀ hm' A', PG hm' p (upd (upd (upd (upd (upd (upd u 0 3) 1 3) 2 0) 3 0) 4 0) 5 0) A' → (∀ s, s ≠ 14 → A' s = A s) → (∀ q, q < 288 → A' 14 q = 0) → sm p (p + 10) hm hm' → Q none hm' hs) : CC X EV (d + 1) 4 [.ref p] hm hs Q := by
  refine c_of (ls2 := [.ref p, .null]) Y4 (Nat.le_of_ble_eq_true rfl) rfl I4 ?_
  simp (disch := first | omega | (simp only [List.length_cons, List.length_nil]; omega)) only [r_al0 dX1_clear_0, r_iconst dX1_clear_1 ki3, r_putf dX1_clear_2 F1_9, r_al0 dX1_clear_5, r_iconst dX1_clear_6 ki3, r_putf dX1_clear_7 F1_15, r_al0 dX1_clear_10, r_iconst dX1_clear_11 ki0, r_putf dX1_clear_12 F1_18, r_al0 dX1_clear_15, r_iconst dX1_clear_16 ki0, r_putf dX1_clear_17 F1_21, r_al0 dX1_clear_20, r_iconst dX1_clear_21 ki0, r_putf dX1_clear_22 F1_24, r_al0 dX1_clear_25, r_iconst dX1_clear_26 ki0, r_putf dX1_clear_27 F1_27, r_iconst dX1_clear_30 ki0, r_is1 dX1_clear_31, List.cons_append, List.nil_append, Nat.reduceAdd, Option.toList, cat_f, cat_i, cat_n, cat_r, eq_self, fit_i, ft1_0, ft1_1, ft1_2, ft1_3, ft1_4, ft1_5, p1_0, p1_1, p1_2, p1_3, p1_4, p1_5, pk_un, pk_us, rd_up_eq, rd_up_ne, true_and, up_eq, up_ne, up_up, z0, hP.r, rd_own hP.r, hP.r, rd_own hP.r]
  have hP1 := hP.o (upd (upd (upd (upd (upd (upd u 0 3) 1 3) 2 0) 3 0) 4 0) 5 0)
  generalize upd (upd (upd (upd (upd (upd u 0 3) 1 3) 2 0) 3 0) 4 0) 5 0 = u1 at hP1 hQ ⊢
  suffices H : ∀ k, k ≤ 288 → ∀ hm' A', PG hm' p u1 A' → (∀ s, s ≠ 14 → A' s = A s) → (∀ q, q < k → A' 14 q = 0) → sm p (p + 10) hm hm' → E1 X EV d 1 0 0 none false cX1_clear Q 32 [.ref p, .int (nI k)] [] 0 0 hm' hs from
    H 0 (by omega) _ A hP1 (fun _ _ => rfl) (fun q hq => absurd hq (Nat.not_lt_zero q)) (sm.rf.up (by omega))
  refine up_loop 288 _ ?_ ?_
  · intro hm' A' hP' h1 h2 h3
    simp (disch := first | omega | (simp only [List.length_cons, List.length_nil]; omega)) only [r_il1 dX1_clear_32, r_al0 dX1_clear_33, r_getf dX1_clear_34 F1_55, r_alen dX1_clear_37, r_ic_ge (tgt := 54) dX1_clear_38 rfl, r_al0 dX1_clear_41, r_getf dX1_clear_42 F1_55, r_il1 dX1_clear_45, r_iconst dX1_clear_46 ki0, r_iast dX1_clear_47, r_ii1 dX1_clear_48 kn1, r_gotoB (tgt := 32) dX1_clear_51 rfl, r_vret dX1_clear_54 (Nat.zero_le _) (Nat.zero_le _), List.cons_append, List.nil_append, Nat.reduceAdd, Option.toList, aN_ok, cat_f, cat_i, cat_n, cat_r, eq_self, g1_14, pk_un, pk_us, rd_up_eq, rd_up_ne, sI_ok, true_and, up_eq, up_ne, up_up, z0, hP'.r, rd_own hP'.r, hP'.r14, rd_own hP'.r14]
    exact ⟨fun _ => hQ hm' A' hP' h1 h2 h3, fun h => absurd (Int32.le_refl _) h⟩
  · intro k hk ih hm' A' hP' h1 h2 h3
    simp (disch := first | omega | (simp only [List.length_cons, List.length_nil]; omega)) only [r_il1 dX1_clear_32, r_al0 dX1_clear_33, r_getf dX1_clear_34 F1_55, r_alen dX1_clear_37, r_ic_ge (tgt := 54) dX1_clear_38 rfl, r_al0 dX1_clear_41, r_getf dX1_clear_42 F1_55, r_il1 dX1_clear_45, r_iconst dX1_clear_46 ki0, r_iast dX1_clear_47, r_ii1 dX1_clear_48 kn1, r_gotoB (tgt := 32) dX1_clear_51 rfl, r_vret dX1_clear_54 (Nat.zero_le _) (Nat.zero_le _), List.cons_append, List.nil_append, Nat.reduceAdd, Option.toList, aN_ok, cat_f, cat_i, cat_n, cat_r, eq_self, g1_14, pk_un, pk_us, rd_up_eq, rd_up_ne, sI_ok, true_and, up_eq, up_ne, up_up, z0, hP'.r, rd_own hP'.r, hP'.r14, rd_own hP'.r14]
    simp (disch := omega) only [E2, nI_1, nI_add, nI_leI, nI_ltI, nI_eq, nI_clamp]
    refine ⟨fun h => absurd h (by omega), fun _ => ⟨vp_in_nI hk (by omega), ?_⟩⟩
    refine ih _ _ (hP'.w14 _) (fun s a => ?_) (fun q hq => ?_) (h3.up (by omega))
    · rw [vu_ne a]; exact h1 s a
    · rw [vu_eq]; unfold upd; grind
theorem c_copyLinksOf {q : Nat} {u0 : Nat → Int32} {A0 : Nat → Nat → Int32} (hP : PG hm p u A) (hP0 : PG hm q u0 A0) (hpq : p + 10 ≤ q ∨ q + 10 ≤ p) (hQ : ∀ hm' A', PG hm' p (upd (upd (upd u 2 (u0 2)) 4 (u0 4)) 5 (u0 5)) A' → (∀ s, s ≠ 10 → s ≠ 11 → s ≠ 12 → s ≠ 13 → A' s = A s) → (∀ k, k < 12 → A' 10 k = A0 10 k ∧ A' 11 k = A0 11 k ∧ A' 12 k = A0 12 k ∧ A' 13 k = A0 13 k) → sm p (p + 10) hm hm' → Q none hm' hs) : CC X EV (d + 1) 5 [.ref p, .ref q] hm hs Q := by
  refine c_of (ls2 := [.ref p, .ref q, .null]) Y5 (Nat.le_of_ble_eq_true rfl) rfl I5 ?_
  simp (disch := first | omega | (simp only [List.length_cons, List.length_nil]; omega)) only [r_al0 dX1_copyLinksOf_0, r_al1 dX1_copyLinksOf_1, r_getf dX1_copyLinksOf_2 F1_18, r_putf dX1_copyLinksOf_5 F1_18, r_al0 dX1_copyLinksOf_8, r_al1 dX1_copyLinksOf_9, r_getf dX1_copyLinksOf_10 F1_24, r_putf dX1_copyLinksOf_13 F1_24, r_al0 dX1_copyLinksOf_16, r_al1 dX1_copyLinksOf_17, r_getf dX1_copyLinksOf_18 F1_27, r_putf dX1_copyLinksOf_21 F1_27, r_iconst dX1_copyLinksOf_24 ki0, r_is2 dX1_copyLinksOf_25, List.cons_append, List.nil_append, Nat.reduceAdd, Option.toList, cat_f, cat_i, cat_n, cat_r, eq_self, fit_i, ft1_2, ft1_4, ft1_5, g1_2, g1_4, g1_5, p1_2, p1_4, p1_5, pk_un, pk_us, rd_up_eq, rd_up_ne, true_and, up_eq, up_ne, up_up, z0, hP.r, rd_own hP.r, hP.r, rd_own hP.r, hP0.r, rd_own hP0.r, hP0.r, rd_own hP0.r]
  have hP1 := hP.o (upd (upd (upd u 2 (u0 2)) 4 (u0 4)) 5 (u0 5))
  generalize upd (upd (upd u 2 (u0 2)) 4 (u0 4)) 5 (u0 5) = u1 at hP1 hQ ⊢
  suffices H : ∀ k, k ≤ 12 → ∀ hm' A', PG hm' p u1 A' → PG hm' q u0 A0 → (∀ s, s ≠ 10 → s ≠ 11 → s ≠ 12 → s ≠ 13 → A' s = A s) → (∀ x, x < k → A' 10 x = A0 10 x ∧ A' 11 x = A0 11 x ∧ A' 12 x = A0 12 x ∧ A' 13 x = A0 13 x) → sm p (p + 10) hm hm' → E1 X EV d 1 0 0 none false cX1_copyLinksOf Q 26 [.ref p, .ref q, .int (nI k)] [] 0 0 hm' hs from
    H 0 (by omega) _ A hP1 (hP0.fr (fun a h1 h2 => up_ne (by omega))) (fun _ _ _ _ _ => rfl) (fun q hq => absurd hq (Nat.not_lt_zero q)) (sm.rf.up (by omega))
  refine up_loop 12 _ ?_ ?_
  · intro hm' A' hP' hP0' h1 h2 h3
    simp (disch := first | omega | (simp only [List.length_cons, List.length_nil]; omega)) only [r_il2 dX1_copyLinksOf_26, r_bipush dX1_copyLinksOf_27 kb12, r_ic_ge (tgt := 86) dX1_copyLinksOf_29 rfl, r_al0 dX1_copyLinksOf_32, r_getf dX1_copyLinksOf_33 F1_43, r_il2 dX1_copyLinksOf_36, r_al1 dX1_copyLinksOf_37, r_getf dX1_copyLinksOf_38 F1_43, r_il2 dX1_copyLinksOf_41, r_iald dX1_copyLinksOf_42, r_iast dX1_copyLinksOf_43, r_al0 dX1_copyLinksOf_44, r_getf dX1_copyLinksOf_45 F1_46, r_il2 dX1_copyLinksOf_48, r_al1 dX1_copyLinksOf_49, r_getf dX1_copyLinksOf_50 F1_46, r_il2 dX1_copyLinksOf_53, r_iald dX1_copyLinksOf_54, r_iast dX1_copyLinksOf_55, r_al0 dX1_copyLinksOf_56, r_getf dX1_copyLinksOf_57 F1_49, r_il2 dX1_copyLinksOf_60, r_al1 dX1_copyLinksOf_61, r_getf dX1_copyLinksOf_62 F1_49, r_il2 dX1_copyLinksOf_65, r_iald dX1_copyLinksOf_66, r_iast dX1_copyLinksOf_67, r_al0 dX1_copyLinksOf_68, r_getf dX1_copyLinksOf_69 F1_52, r_il2 dX1_copyLinksOf_72, r_al1 dX1_copyLinksOf_73, r_getf dX1_copyLinksOf_74 F1_52, r_il2 dX1_copyLinksOf_77, r_iald dX1_copyLinksOf_78, r_iast dX1_copyLinksOf_79, r_ii2 dX1_copyLinksOf_80 kn1, r_gotoB (tgt := 26) dX1_copyLinksOf_83 rfl, r_vret dX1_copyLinksOf_86 (Nat.zero_le _) (Nat.zero_le _), List.cons_append, List.nil_append, Nat.reduceAdd, Option.toList, aI_ok, cat_f, cat_i, cat_n, cat_r, eq_self, g1_10, g1_11, g1_12, g1_13, pk_un, pk_us, rd_up_eq, rd_up_ne, sI_ok, true_and, up_eq, up_ne, up_up, z0, show (12 : Int32) = nI 12 from rfl]
    exact ⟨fun _ => hQ hm' A' hP' h1 h2 h3, fun h => absurd (Int32.le_refl _) h⟩
  · intro k hk ih hm' A' hP' hP0' h1 h2 h3
    simp (disch := first | omega | (simp only [List.length_cons, List.length_nil]; omega)) only [r_il2 dX1_copyLinksOf_26, r_bipush dX1_copyLinksOf_27 kb12, r_ic_ge (tgt := 86) dX1_copyLinksOf_29 rfl, r_al0 dX1_copyLinksOf_32, r_getf dX1_copyLinksOf_33 F1_43, r_il2 dX1_copyLinksOf_36, r_al1 dX1_copyLinksOf_37, r_getf dX1_copyLinksOf_38 F1_43, r_il2 dX1_copyLinksOf_41, r_iald dX1_copyLinksOf_42, r_iast dX1_copyLinksOf_43, r_al0 dX1_copyLinksOf_44, r_getf dX1_copyLinksOf_45 F1_46, r_il2 dX1_copyLinksOf_48, r_al1 dX1_copyLinksOf_49, r_getf dX1_copyLinksOf_50 F1_46, r_il2 dX1_copyLinksOf_53, r_iald dX1_copyLinksOf_54, r_iast dX1_copyLinksOf_55, r_al0 dX1_copyLinksOf_56, r_getf dX1_copyLinksOf_57 F1_49, r_il2 dX1_copyLinksOf_60, r_al1 dX1_copyLinksOf_61, r_getf dX1_copyLinksOf_62 F1_49, r_il2 dX1_copyLinksOf_65, r_iald dX1_copyLinksOf_66, r_iast dX1_copyLinksOf_67, r_al0 dX1_copyLinksOf_68, r_getf dX1_copyLinksOf_69 F1_52, r_il2 dX1_copyLinksOf_72, r_al1 dX1_copyLinksOf_73, r_getf dX1_copyLinksOf_74 F1_52, r_il2 dX1_copyLinksOf_77, r_iald dX1_copyLinksOf_78, r_iast dX1_copyLinksOf_79, r_ii2 dX1_copyLinksOf_80 kn1, r_gotoB (tgt := 26) dX1_copyLinksOf_83 rfl, r_vret dX1_copyLinksOf_86 (Nat.zero_le _) (Nat.zero_le _), List.cons_append, List.nil_append, Nat.reduceAdd, Option.toList, aI_ok, cat_f, cat_i, cat_n, cat_r, eq_self, g1_10, g1_11, g1_12, g1_13, pk_un, pk_us, rd_up_eq, rd_up_ne, sI_ok, true_and, up_eq, up_ne, up_up, z0, hP'.r, rd_own hP'.r, hP'.r10, rd_own hP'.r10, hP'.r11, rd_own hP'.r11, hP'.r12, rd_own hP'.r12, hP'.r13, rd_own hP'.r13, hP0'.r, rd_own hP0'.r, hP0'.r10, rd_own hP0'.r10, hP0'.r11, rd_own hP0'.r11, hP0'.r12, rd_own hP0'.r12, hP0'.r13, rd_own hP0'.r13, show (12 : Int32) = nI 12 from rfl]
    simp (disch := omega) only [E2, nI_1, nI_add, nI_leI, nI_ltI, nI_eq, nI_clamp]
    have hin := vp_in_nI hk (by omega)
    refine ⟨fun h => absurd h (by omega), fun _ => ⟨hin, hin, hin, hin, hin, hin, hin, hin, ?_⟩⟩
    refine ih _ _ ((((hP'.w10 _).w11 _).w12 _).w13 _) (hP0'.fr (fun a g1 g2 => ?_)) (fun s a b c e => ?_) (fun x hx => ?_) ((((h3.up (by omega)).up (by omega)).up (by omega)).up (by omega))
    · rw [up_ne (by omega), up_ne (by omega), up_ne (by omega), up_ne (by omega)]
    · rw [vu_ne e, vu_ne c, vu_ne b, vu_ne a]; exact h1 s a b c e
    · have := h2 x
      simp (disch := decide) only [vu_eq, vu_ne]
      unfold upd
      grind
end P3
