/-! ===== Page: what is asked of it ===== -/
def lowN (B : Nat) (hm : HM) : Prop := ∀ a, a < B → hm a = none
def mstX (c : Int32) : Int32 := if c = 1 then 0 else if c = 3 then -1 else 1
def mstY (c : Int32) : Int32 := if c = 0 then 0 else 1
/-- the statics of TwoHands -/
def XT (X : HM) (EV : Nat → Value) (B : Nat) : Prop := ∃ a b, EV 0 = .ref a ∧ EV 1 = .ref b ∧ a < B ∧ b < B ∧ X a = some (ia 4 (fun k => mstX (nI k))) ∧ X b = some (ia 4 (fun k => mstY (nI k)))
def mlow (t : Int32) (bl : Nat → Int32) : Nat → Int32
  | 0 => t
  | k + 1 => if bt t k = true then mlow t bl k ||| bl k else mlow t bl k
def rdyP (bl : Nat → Int32) (there : Int32) (k : Nat) : Prop := bt there k = false ∧ bl k &&& (there ^^^ (-1)) = 0
def rdy (bl : Nat → Int32) (there : Int32) (n : Nat) : Int32 := acc (fun k => bt there k = false ∧ bl k &&& (there ^^^ (-1)) = 0) n
def topv (bl : Nat → Int32) (there : Int32) (n : Nat) : Int32 := fst1 (fun k => bt there k = true ∧ there &&& ((bl k ||| sb k) ^^^ (-1)) = 0) n
def seenv (bl : Nat → Int32) (n : Nat) (there ml : Int32) : Int32 := if there = 0 then 0 else if topv bl there n ≠ -1 ∧ ¬ (ml >>> (topv bl there n &&& 31)) &&& 1 = 0 then 1 else 2
def sAt (u : Nat → Int32) (A : Nat → Nat → Int32) (x y : Int32) : Int32 := if (0 ≤ x ∧ x < u 0) ∧ (0 ≤ y ∧ y < u 1) then A 14 (y * 24 + x).toNatClampNeg else 0
def lkv (f : Nat → Int32) : Nat → Int32
  | 0 => 0
  | i + 1 => (if f i = 1 then (if f i = 0 then lkv f i ||| sb i else lkv f i) ||| sb (i + 9) else (if f i = 0 then lkv f i ||| sb i else lkv f i))
def thv (bl : Nat → Int32) (n : Nat) : Nat → Int32
  | 0 => 0
  | i + 1 => thv bl n i ||| rdy bl (thv bl n i) n
def layv (bl : Nat → Int32) (n k : Nat) : Nat := fstN (fun i => bt (thv bl n (i + 1)) k = true) n
theorem inb {x y : Int32} {w h : Nat} (hw : w ≤ 24) (hh : h ≤ 12) (hx : 0 ≤ x ∧ x < nI w) (hy : 0 ≤ y ∧ y < nI h) : ∃ a b, a < w ∧ b < h ∧ x = nI a ∧ y = nI b ∧ y * 24 + x = nI (b * 24 + a) ∧ b * 24 + a < 288 := by
  obtain ⟨a, ha, rfl⟩ := ix (by omega) hx
  obtain ⟨b, hb, rfl⟩ := ix (by omega) hy
  refine ⟨a, b, ha, hb, rfl, rfl, ?_, by omega⟩
  rw [show (24 : Int32) = nI 24 from rfl, pk_mul, nI_add]
section P1
variable {X : HM} {EV : Nat → Value} {d : Nat} {hm : HM} {hs : Nat} {Q : QT} {p : Nat} {u : Nat → Int32} {A : Nat → Nat → Int32} {B n : Nat}
theorem c_has {k : Int32} (hP : PG hm p u A) (hQ : Q (some (.int (if 0 ≤ k ∧ k < u 2 then 1 else 0))) hm hs) : CC X EV (d + 1) 6 [.ref p, .int k] hm hs Q := by
  refine c_of (ls2 := [.ref p, .int k]) Y6 (Nat.le_of_ble_eq_true rfl) rfl I6 ?_
  simp only [r_il1 dX1_has_0, r_if_lt (tgt := 16) dX1_has_1 rfl, r_il1 dX1_has_4, r_al0 dX1_has_5, r_getf dX1_has_6 F1_18, r_ic_ge (tgt := 16) dX1_has_9 rfl, r_iconst dX1_has_12 ki1, r_goto (tgt := 17) dX1_has_13 rfl, r_iconst dX1_has_16 ki0, r_zret0 dX1_has_17 (Nat.zero_le _) (Nat.zero_le _), r_zret1 dX1_has_17 (Nat.zero_le _) (Nat.zero_le _), r_zretc dX1_has_17 (Nat.zero_le _) (Nat.zero_le _), List.cons_append, List.nil_append, Nat.reduceAdd, Option.toList, g1_2, z0, rd_own hP.r]
  have hQ := zq hQ
  grind
theorem c_hasTwo {a b : Int32} (hP : PG hm p u A) (hQ : Q (some (.int (if (0 ≤ a ∧ a < u 2) ∧ (0 ≤ b ∧ b < u 2) ∧ a ≠ b then 1 else 0))) hm hs) : CC X EV (d + 2) 7 [.ref p, .int a, .int b] hm hs Q := by
  have hQ := zq hQ
  refine c_of (ls2 := [.ref p, .int a, .int b]) Y7 (Nat.le_of_ble_eq_true rfl) rfl I7 ?_
  simp only [r_al0 dX1_hasTwo_0, r_il1 dX1_hasTwo_1, List.cons_append, List.nil_append, Nat.reduceAdd, Option.toList, z0]
  refine r_iv2 dX1_hasTwo_2 M1_58 Y6 O6 (Nat.le_of_ble_eq_true rfl) (rcv_own hP.r) (Nat.le_refl _) (Nat.le_refl _) ?_
  refine c_has hP ?_
  simp only [r_if_eq (tgt := 25) dX1_hasTwo_5 rfl, r_al0 dX1_hasTwo_8, r_il2 dX1_hasTwo_9, r_iconst dX1_hasTwo_25 ki0, r_zret0 dX1_hasTwo_26 (Nat.zero_le _) (Nat.zero_le _), r_zret1 dX1_hasTwo_26 (Nat.zero_le _) (Nat.zero_le _), r_zretc dX1_hasTwo_26 (Nat.zero_le _) (Nat.zero_le _), List.cons_append, List.nil_append, Nat.reduceAdd, Option.toList, z0]
  refine ⟨fun h => ?_, fun h => ?_⟩
  · grind
  · skip
    refine r_iv2 dX1_hasTwo_10 M1_58 Y6 O6 (Nat.le_of_ble_eq_true rfl) (rcv_own hP.r) (Nat.le_refl _) (Nat.le_refl _) ?_
    refine c_has hP ?_
    simp only [r_if_eq (tgt := 25) dX1_hasTwo_13 rfl, r_il1 dX1_hasTwo_16, r_il2 dX1_hasTwo_17, r_ic_eq (tgt := 25) dX1_hasTwo_18 rfl, r_iconst dX1_hasTwo_21 ki1, r_goto (tgt := 26) dX1_hasTwo_22 rfl, r_iconst dX1_hasTwo_25 ki0, r_zret0 dX1_hasTwo_26 (Nat.zero_le _) (Nat.zero_le _), r_zret1 dX1_hasTwo_26 (Nat.zero_le _) (Nat.zero_le _), r_zretc dX1_hasTwo_26 (Nat.zero_le _) (Nat.zero_le _), List.cons_append, List.nil_append, Nat.reduceAdd, Option.toList, z0]
    grind
theorem c_hasCell {x y : Int32} (hP : PG hm p u A) (hQ : Q (some (.int (if (0 ≤ x ∧ x < u 0) ∧ (0 ≤ y ∧ y < u 1) then 1 else 0))) hm hs) : CC X EV (d + 1) 8 [.ref p, .int x, .int y] hm hs Q := by
  refine c_of (ls2 := [.ref p, .int x, .int y]) Y8 (Nat.le_of_ble_eq_true rfl) rfl I8 ?_
  simp only [r_il1 dX1_hasCell_0, r_if_lt (tgt := 28) dX1_hasCell_1 rfl, r_il1 dX1_hasCell_4, r_al0 dX1_hasCell_5, r_getf dX1_hasCell_6 F1_9, r_ic_ge (tgt := 28) dX1_hasCell_9 rfl, r_il2 dX1_hasCell_12, r_if_lt (tgt := 28) dX1_hasCell_13 rfl, r_il2 dX1_hasCell_16, r_al0 dX1_hasCell_17, r_getf dX1_hasCell_18 F1_15, r_ic_ge (tgt := 28) dX1_hasCell_21 rfl, r_iconst dX1_hasCell_24 ki1, r_goto (tgt := 29) dX1_hasCell_25 rfl, r_iconst dX1_hasCell_28 ki0, r_zret0 dX1_hasCell_29 (Nat.zero_le _) (Nat.zero_le _), r_zret1 dX1_hasCell_29 (Nat.zero_le _) (Nat.zero_le _), r_zretc dX1_hasCell_29 (Nat.zero_le _) (Nat.zero_le _), List.cons_append, List.nil_append, Nat.reduceAdd, Option.toList, g1_0, g1_1, z0, rd_own hP.r]
  have hQ := zq hQ
  grind
theorem c_strokesAt {x y : Int32} {w h : Nat} (hP : PG hm p u A) (h0 : u 0 = nI w) (h1 : u 1 = nI h) (hw : w ≤ 24) (hh : h ≤ 12) (hQ : Q (some (.int (sAt u A x y))) hm hs) : CC X EV (d + 2) 9 [.ref p, .int x, .int y] hm hs Q := by
  refine c_of (ls2 := [.ref p, .int x, .int y]) Y9 (Nat.le_of_ble_eq_true rfl) rfl I9 ?_
  simp only [r_al0 dX1_strokesAt_0, r_il1 dX1_strokesAt_1, r_il2 dX1_strokesAt_2, List.cons_append, List.nil_append, Nat.reduceAdd, Option.toList, z0]
  refine r_iv3 dX1_strokesAt_3 M1_62 Y8 O8 (Nat.le_of_ble_eq_true rfl) (rcv_own hP.r) (Nat.le_refl _) (Nat.le_refl _) ?_
  refine c_hasCell hP ?_
  simp only [r_if_eq (tgt := 23) dX1_strokesAt_6 rfl, r_al0 dX1_strokesAt_9, r_getf dX1_strokesAt_10 F1_55, r_il2 dX1_strokesAt_13, r_bipush dX1_strokesAt_14 kb24, r_imul dX1_strokesAt_16, r_il1 dX1_strokesAt_17, r_iadd dX1_strokesAt_18, r_iald dX1_strokesAt_19, r_goto (tgt := 24) dX1_strokesAt_20 rfl, r_iconst dX1_strokesAt_23 ki0, r_iret dX1_strokesAt_24 (Nat.zero_le _) (Nat.zero_le _), List.cons_append, List.nil_append, Nat.reduceAdd, Option.toList, aI_ok, g1_14, z0, rd_own hP.r, rd_own hP.r14]
  refine ⟨fun hc => ?_, fun hc => ?_⟩
  · rw [show sAt u A x y = 0 from if_neg hc] at hQ
    exact hQ
  · have hc := Classical.not_not.mp hc
    rw [show sAt u A x y = A 14 (y * 24 + x).toNatClampNeg from if_pos hc] at hQ
    rw [h0, h1] at hc
    obtain ⟨a, b, ha, hb, -, -, e, hl⟩ := inb hw hh hc.1 hc.2
    refine ⟨?_, hQ⟩
    rw [e]
    exact vp_in_nI hl (by omega)
theorem c_isCrossing {i j : Nat} (hP : PG hm p u A) (hi : i < 12) (hj : j < 32) (hQ : Q (some (.int (if bt (A 10 i) j = true then 1 else 0))) hm hs) : CC X EV (d + 1) 14 [.ref p, .int (nI i), .int (nI j)] hm hs Q := by
  refine c_of (ls2 := [.ref p, .int (nI i), .int (nI j)]) Y14 (Nat.le_of_ble_eq_true rfl) rfl I14 ?_
  simp only [r_al0 dX1_isCrossing_0, r_getf dX1_isCrossing_1 F1_43, r_il1 dX1_isCrossing_4, r_iald dX1_isCrossing_5, r_il2 dX1_isCrossing_6, r_ishr dX1_isCrossing_7, r_iconst dX1_isCrossing_8 ki1, r_iand dX1_isCrossing_9, r_if_eq (tgt := 17) dX1_isCrossing_10 rfl, r_iconst dX1_isCrossing_13 ki1, r_goto (tgt := 18) dX1_isCrossing_14 rfl, r_iconst dX1_isCrossing_17 ki0, r_zret0 dX1_isCrossing_18 (Nat.zero_le _) (Nat.zero_le _), r_zret1 dX1_isCrossing_18 (Nat.zero_le _) (Nat.zero_le _), r_zretc dX1_isCrossing_18 (Nat.zero_le _) (Nat.zero_le _), List.cons_append, List.nil_append, Nat.reduceAdd, Option.toList, aI_ok, g1_10, z0, rd_own hP.r, rd_own hP.r10, tst0 hj, nI_clamp (show i < 2 ^ 31 by omega)]
  have hQ := zq hQ
  have := vp_in_nI hi (by omega)
  grind
theorem c_isTold {i j : Nat} (hP : PG hm p u A) (hi : i < 12) (hj : j < 32) (hQ : Q (some (.int (if bt (A 11 i) j = true then 1 else 0))) hm hs) : CC X EV (d + 1) 15 [.ref p, .int (nI i), .int (nI j)] hm hs Q := by
  refine c_of (ls2 := [.ref p, .int (nI i), .int (nI j)]) Y15 (Nat.le_of_ble_eq_true rfl) rfl I15 ?_
  simp only [r_al0 dX1_isTold_0, r_getf dX1_isTold_1 F1_46, r_il1 dX1_isTold_4, r_iald dX1_isTold_5, r_il2 dX1_isTold_6, r_ishr dX1_isTold_7, r_iconst dX1_isTold_8 ki1, r_iand dX1_isTold_9, r_if_eq (tgt := 17) dX1_isTold_10 rfl, r_iconst dX1_isTold_13 ki1, r_goto (tgt := 18) dX1_isTold_14 rfl, r_iconst dX1_isTold_17 ki0, r_zret0 dX1_isTold_18 (Nat.zero_le _) (Nat.zero_le _), r_zret1 dX1_isTold_18 (Nat.zero_le _) (Nat.zero_le _), r_zretc dX1_isTold_18 (Nat.zero_le _) (Nat.zero_le _), List.cons_append, List.nil_append, Nat.reduceAdd, Option.toList, aI_ok, g1_11, z0, rd_own hP.r, rd_own hP.r11, tst0 hj, nI_clamp (show i < 2 ^ 31 by omega)]
  have hQ := zq hQ
  have := vp_in_nI hi (by omega)
  grind
theorem c_isOver {i j : Nat} (hP : PG hm p u A) (hi : i < 12) (hj : j < 32) (hQ : Q (some (.int (if bt (A 12 i) j = true then 1 else 0))) hm hs) : CC X EV (d + 1) 16 [.ref p, .int (nI i), .int (nI j)] hm hs Q := by
  refine c_of (ls2 := [.ref p, .int (nI i), .int (nI j)]) Y16 (Nat.le_of_ble_eq_true rfl) rfl I16 ?_
  simp only [r_al0 dX1_isOver_0, r_getf dX1_isOver_1 F1_49, r_il1 dX1_isOver_4, r_iald dX1_isOver_5, r_il2 dX1_isOver_6, r_ishr dX1_isOver_7, r_iconst dX1_isOver_8 ki1, r_iand dX1_isOver_9, r_if_eq (tgt := 17) dX1_isOver_10 rfl, r_iconst dX1_isOver_13 ki1, r_goto (tgt := 18) dX1_isOver_14 rfl, r_iconst dX1_isOver_17 ki0, r_zret0 dX1_isOver_18 (Nat.zero_le _) (Nat.zero_le _), r_zret1 dX1_isOver_18 (Nat.zero_le _) (Nat.zero_le _), r_zretc dX1_isOver_18 (Nat.zero_le _) (Nat.zero_le _), List.cons_append, List.nil_append, Nat.reduceAdd, Option.toList, aI_ok, g1_12, z0, rd_own hP.r, rd_own hP.r12, tst0 hj, nI_clamp (show i < 2 ^ 31 by omega)]
  have hQ := zq hQ
  have := vp_in_nI hi (by omega)
  grind
theorem c_canBeTold {i j : Nat} (hP : PG hm p u A) (hi : i < 12) (hj : j < 12) (hQ : Q (some (.int (if i ≠ j ∧ bt (A 10 i) j = true ∧ bt (A 11 i) j = false then 1 else 0))) hm hs) : CC X EV (d + 2) 17 [.ref p, .int (nI i), .int (nI j)] hm hs Q := by
  have hQ := zq hQ
  refine c_of (ls2 := [.ref p, .int (nI i), .int (nI j)]) Y17 (Nat.le_of_ble_eq_true rfl) rfl I17 ?_
  simp only [r_il1 dX1_canBeTold_0, r_il2 dX1_canBeTold_1, r_ic_eq (tgt := 27) dX1_canBeTold_2 rfl, r_al0 dX1_canBeTold_5, r_il1 dX1_canBeTold_6, r_il2 dX1_canBeTold_7, r_iconst dX1_canBeTold_27 ki0, r_zret0 dX1_canBeTold_28 (Nat.zero_le _) (Nat.zero_le _), r_zret1 dX1_canBeTold_28 (Nat.zero_le _) (Nat.zero_le _), r_zretc dX1_canBeTold_28 (Nat.zero_le _) (Nat.zero_le _), List.cons_append, List.nil_append, Nat.reduceAdd, Option.toList, z0, nI_eq (show i < 2 ^ 31 by omega) (show j < 2 ^ 31 by omega)]
  refine ⟨fun h => ?_, fun h => ?_⟩
  · grind
  · skip
    refine r_iv3 dX1_canBeTold_8 M1_82 Y14 O14 (Nat.le_of_ble_eq_true rfl) (rcv_own hP.r) (Nat.le_refl _) (Nat.le_refl _) ?_
    refine c_isCrossing hP hi (by omega) ?_
    simp only [r_if_eq (tgt := 27) dX1_canBeTold_11 rfl, r_al0 dX1_canBeTold_14, r_il1 dX1_canBeTold_15, r_il2 dX1_canBeTold_16, r_iconst dX1_canBeTold_27 ki0, r_zret0 dX1_canBeTold_28 (Nat.zero_le _) (Nat.zero_le _), r_zret1 dX1_canBeTold_28 (Nat.zero_le _) (Nat.zero_le _), r_zretc dX1_canBeTold_28 (Nat.zero_le _) (Nat.zero_le _), List.cons_append, List.nil_append, Nat.reduceAdd, Option.toList, z0]
    refine ⟨fun h => ?_, fun h => ?_⟩
    · grind
    · skip
      refine r_iv3 dX1_canBeTold_17 M1_85 Y15 O15 (Nat.le_of_ble_eq_true rfl) (rcv_own hP.r) (Nat.le_refl _) (Nat.le_refl _) ?_
      refine c_isTold hP hi (by omega) ?_
      simp only [r_if_ne (tgt := 27) dX1_canBeTold_20 rfl, r_iconst dX1_canBeTold_23 ki1, r_goto (tgt := 28) dX1_canBeTold_24 rfl, r_iconst dX1_canBeTold_27 ki0, r_zret0 dX1_canBeTold_28 (Nat.zero_le _) (Nat.zero_le _), r_zret1 dX1_canBeTold_28 (Nat.zero_le _) (Nat.zero_le _), r_zretc dX1_canBeTold_28 (Nat.zero_le _) (Nat.zero_le _), List.cons_append, List.nil_append, Nat.reduceAdd, Option.toList, z0]
      grind
theorem c_linkLeavesNoWay {i j : Nat} (hP : PG hm p u A) (hi : i < 12) (hj : j < 12) (hQ : Q (some (.int (if ¬ u 4 &&& (A 13 i ||| sb i) = 0 ∧ ¬ u 5 &&& (A 12 j ||| sb j) = 0 then 1 else 0))) hm hs) : CC X EV (d + 1) 18 [.ref p, .int (nI i), .int (nI j)] hm hs Q := by
  have hQ := zq hQ
  refine c_of (ls2 := [.ref p, .int (nI i), .int (nI j)]) Y18 (Nat.le_of_ble_eq_true rfl) rfl I18 ?_
  simp only [r_al0 dX1_linkLeavesNoWay_0, r_getf dX1_linkLeavesNoWay_1 F1_24, r_al0 dX1_linkLeavesNoWay_4, r_getf dX1_linkLeavesNoWay_5 F1_52, r_il1 dX1_linkLeavesNoWay_8, r_iald dX1_linkLeavesNoWay_9, r_iconst dX1_linkLeavesNoWay_10 ki1, r_il1 dX1_linkLeavesNoWay_11, r_ishl dX1_linkLeavesNoWay_12, r_ior dX1_linkLeavesNoWay_13, r_iand dX1_linkLeavesNoWay_14, r_if_eq (tgt := 40) dX1_linkLeavesNoWay_15 rfl, r_al0 dX1_linkLeavesNoWay_18, r_getf dX1_linkLeavesNoWay_19 F1_27, r_al0 dX1_linkLeavesNoWay_22, r_getf dX1_linkLeavesNoWay_23 F1_49, r_il2 dX1_linkLeavesNoWay_26, r_iald dX1_linkLeavesNoWay_27, r_iconst dX1_linkLeavesNoWay_28 ki1, r_il2 dX1_linkLeavesNoWay_29, r_ishl dX1_linkLeavesNoWay_30, r_ior dX1_linkLeavesNoWay_31, r_iand dX1_linkLeavesNoWay_32, r_if_eq (tgt := 40) dX1_linkLeavesNoWay_33 rfl, r_iconst dX1_linkLeavesNoWay_36 ki1, r_goto (tgt := 41) dX1_linkLeavesNoWay_37 rfl, r_iconst dX1_linkLeavesNoWay_40 ki0, r_zret0 dX1_linkLeavesNoWay_41 (Nat.zero_le _) (Nat.zero_le _), r_zret1 dX1_linkLeavesNoWay_41 (Nat.zero_le _) (Nat.zero_le _), r_zretc dX1_linkLeavesNoWay_41 (Nat.zero_le _) (Nat.zero_le _), List.cons_append, List.nil_append, Nat.reduceAdd, Option.toList, aI_ok, g1_12, g1_13, g1_4, g1_5, z0, rd_own hP.r, rd_own hP.r12, rd_own hP.r13, nI_clamp (show i < 2 ^ 31 by omega), nI_clamp (show j < 2 ^ 31 by omega)]
  have h1 := vp_in_nI hi (by omega)
  have h2 := vp_in_nI hj (by omega)
  unfold sb at hQ
  grind
theorem c_hasBetween {i j : Nat} (hP : PG hm p u A) (hi : i < 12) (hj : j < 12) (hQ : Q (some (.int (if ¬ A 12 i &&& A 13 j = 0 ∨ ¬ A 12 j &&& A 13 i = 0 then 1 else 0))) hm hs) : CC X EV (d + 1) 22 [.ref p, .int (nI i), .int (nI j)] hm hs Q := by
  have hQ := zq hQ
  refine c_of (ls2 := [.ref p, .int (nI i), .int (nI j)]) Y22 (Nat.le_of_ble_eq_true rfl) rfl I22 ?_
  simp only [r_al0 dX1_hasBetween_0, r_getf dX1_hasBetween_1 F1_49, r_il1 dX1_hasBetween_4, r_iald dX1_hasBetween_5, r_al0 dX1_hasBetween_6, r_getf dX1_hasBetween_7 F1_52, r_il2 dX1_hasBetween_10, r_iald dX1_hasBetween_11, r_iand dX1_hasBetween_12, r_if_ne (tgt := 32) dX1_hasBetween_13 rfl, r_al0 dX1_hasBetween_16, r_getf dX1_hasBetween_17 F1_49, r_il2 dX1_hasBetween_20, r_iald dX1_hasBetween_21, r_al0 dX1_hasBetween_22, r_getf dX1_hasBetween_23 F1_52, r_il1 dX1_hasBetween_26, r_iald dX1_hasBetween_27, r_iand dX1_hasBetween_28, r_if_eq (tgt := 36) dX1_hasBetween_29 rfl, r_iconst dX1_hasBetween_32 ki1, r_goto (tgt := 37) dX1_hasBetween_33 rfl, r_iconst dX1_hasBetween_36 ki0, r_zret0 dX1_hasBetween_37 (Nat.zero_le _) (Nat.zero_le _), r_zret1 dX1_hasBetween_37 (Nat.zero_le _) (Nat.zero_le _), r_zretc dX1_hasBetween_37 (Nat.zero_le _) (Nat.zero_le _), List.cons_append, List.nil_append, Nat.reduceAdd, Option.toList, aI_ok, g1_12, g1_13, z0, rd_own hP.r, rd_own hP.r12, rd_own hP.r13, nI_clamp (show i < 2 ^ 31 by omega), nI_clamp (show j < 2 ^ 31 by omega)]
  have h1 := vp_in_nI hi (by omega)
  have h2 := vp_in_nI hj (by omega)
  grind
theorem c_toldHand {i : Nat} (hP : PG hm p u A) (hi : i < 12) (hQ : Q (some (.int (if bt (u 4) i = true then 0 else if bt (u 5) i = true then 1 else -1))) hm hs) : CC X EV (d + 1) 23 [.ref p, .int (nI i)] hm hs Q := by
  refine c_of (ls2 := [.ref p, .int (nI i)]) Y23 (Nat.le_of_ble_eq_true rfl) rfl I23 ?_
  simp only [r_al0 dX1_toldHand_0, r_getf dX1_toldHand_1 F1_24, r_il1 dX1_toldHand_4, r_ishr dX1_toldHand_5, r_iconst dX1_toldHand_6 ki1, r_iand dX1_toldHand_7, r_if_eq (tgt := 13) dX1_toldHand_8 rfl, r_iconst dX1_toldHand_11 ki0, r_iret dX1_toldHand_12 (Nat.zero_le _) (Nat.zero_le _), r_al0 dX1_toldHand_13, r_getf dX1_toldHand_14 F1_27, r_il1 dX1_toldHand_17, r_ishr dX1_toldHand_18, r_iconst dX1_toldHand_19 ki1, r_iand dX1_toldHand_20, r_if_eq (tgt := 28) dX1_toldHand_21 rfl, r_iconst dX1_toldHand_24 ki1, r_goto (tgt := 29) dX1_toldHand_25 rfl, r_iconst dX1_toldHand_28 kim1, r_iret dX1_toldHand_29 (Nat.zero_le _) (Nat.zero_le _), List.cons_append, List.nil_append, Nat.reduceAdd, Option.toList, g1_4, g1_5, z0, rd_own hP.r, tst0 (show i < 32 by omega)]
  grind
theorem c_handLeavesNoWay {i : Nat} {h : Int32} (hP : PG hm p u A) (hi : i < 12) (hQ : Q (some (.int (if (h = 0 ∧ ¬ u 5 &&& A 12 i = 0) ∨ (h = 1 ∧ ¬ u 4 &&& A 13 i = 0) then 1 else 0))) hm hs) : CC X EV (d + 1) 25 [.ref p, .int (nI i), .int h] hm hs Q := by
  have hQ := zq hQ
  refine c_of (ls2 := [.ref p, .int (nI i), .int h]) Y25 (Nat.le_of_ble_eq_true rfl) rfl I25 ?_
  simp only [r_il2 dX1_handLeavesNoWay_0, r_if_ne (tgt := 24) dX1_handLeavesNoWay_1 rfl, r_al0 dX1_handLeavesNoWay_4, r_getf dX1_handLeavesNoWay_5 F1_27, r_al0 dX1_handLeavesNoWay_8, r_getf dX1_handLeavesNoWay_9 F1_49, r_il1 dX1_handLeavesNoWay_12, r_iald dX1_handLeavesNoWay_13, r_iand dX1_handLeavesNoWay_14, r_if_eq (tgt := 22) dX1_handLeavesNoWay_15 rfl, r_iconst dX1_handLeavesNoWay_18 ki1, r_goto (tgt := 23) dX1_handLeavesNoWay_19 rfl, r_iconst dX1_handLeavesNoWay_22 ki0, r_zret0 dX1_handLeavesNoWay_23 (Nat.zero_le _) (Nat.zero_le _), r_zret1 dX1_handLeavesNoWay_23 (Nat.zero_le _) (Nat.zero_le _), r_zretc dX1_handLeavesNoWay_23 (Nat.zero_le _) (Nat.zero_le _), r_il2 dX1_handLeavesNoWay_24, r_iconst dX1_handLeavesNoWay_25 ki1, r_ic_ne (tgt := 47) dX1_handLeavesNoWay_26 rfl, r_al0 dX1_handLeavesNoWay_29, r_getf dX1_handLeavesNoWay_30 F1_24, r_al0 dX1_handLeavesNoWay_33, r_getf dX1_handLeavesNoWay_34 F1_52, r_il1 dX1_handLeavesNoWay_37, r_iald dX1_handLeavesNoWay_38, r_iand dX1_handLeavesNoWay_39, r_if_eq (tgt := 47) dX1_handLeavesNoWay_40 rfl, r_iconst dX1_handLeavesNoWay_43 ki1, r_goto (tgt := 48) dX1_handLeavesNoWay_44 rfl, r_iconst dX1_handLeavesNoWay_47 ki0, r_zret0 dX1_handLeavesNoWay_48 (Nat.zero_le _) (Nat.zero_le _), r_zret1 dX1_handLeavesNoWay_48 (Nat.zero_le _) (Nat.zero_le _), r_zretc dX1_handLeavesNoWay_48 (Nat.zero_le _) (Nat.zero_le _), List.cons_append, List.nil_append, Nat.reduceAdd, Option.toList, aI_ok, g1_12, g1_13, g1_4, g1_5, z0, rd_own hP.r, rd_own hP.r12, rd_own hP.r13, nI_clamp (show i < 2 ^ 31 by omega)]
  have h1 := vp_in_nI hi (by omega)
  grind
theorem c_mustOf {i : Nat} (hP : PG hm p u A) (hi : i < 12) (hQ : Q (some (.int (if ¬ u 4 &&& (A 13 i ||| sb i) = 0 then 0 else if ¬ u 5 &&& (A 12 i ||| sb i) = 0 then 1 else 2))) hm hs) : CC X EV (d + 1) 27 [.ref p, .int (nI i)] hm hs Q := by
  refine c_of (ls2 := [.ref p, .int (nI i)]) Y27 (Nat.le_of_ble_eq_true rfl) rfl I27 ?_
  simp only [r_al0 dX1_mustOf_0, r_getf dX1_mustOf_1 F1_24, r_al0 dX1_mustOf_4, r_getf dX1_mustOf_5 F1_52, r_il1 dX1_mustOf_8, r_iald dX1_mustOf_9, r_iconst dX1_mustOf_10 ki1, r_il1 dX1_mustOf_11, r_ishl dX1_mustOf_12, r_ior dX1_mustOf_13, r_iand dX1_mustOf_14, r_if_eq (tgt := 20) dX1_mustOf_15 rfl, r_iconst dX1_mustOf_18 ki0, r_iret dX1_mustOf_19 (Nat.zero_le _) (Nat.zero_le _), r_al0 dX1_mustOf_20, r_getf dX1_mustOf_21 F1_27, r_al0 dX1_mustOf_24, r_getf dX1_mustOf_25 F1_49, r_il1 dX1_mustOf_28, r_iald dX1_mustOf_29, r_iconst dX1_mustOf_30 ki1, r_il1 dX1_mustOf_31, r_ishl dX1_mustOf_32, r_ior dX1_mustOf_33, r_iand dX1_mustOf_34, r_if_eq (tgt := 42) dX1_mustOf_35 rfl, r_iconst dX1_mustOf_38 ki1, r_goto (tgt := 43) dX1_mustOf_39 rfl, r_iconst dX1_mustOf_42 ki2, r_iret dX1_mustOf_43 (Nat.zero_le _) (Nat.zero_le _), List.cons_append, List.nil_append, Nat.reduceAdd, Option.toList, aI_ok, g1_12, g1_13, g1_4, g1_5, z0, rd_own hP.r, rd_own hP.r12, rd_own hP.r13, nI_clamp (show i < 2 ^ 31 by omega)]
  have h1 := vp_in_nI hi (by omega)
  unfold sb at hQ
  grind
theorem c_mustBeLower {t : Int32} (hP : PG hm p u A) (hn : u 2 = nI n) (hn12 : n ≤ 12) (hQ : Q (some (.int (mlow t (A 12) n))) hm hs) : CC X EV (d + 1) 26 [.ref p, .int t] hm hs Q := by
  refine c_of (ls2 := [.ref p, .int t, .null, .null]) Y26 (Nat.le_of_ble_eq_true rfl) rfl I26 ?_
  simp only [r_il1 dX1_mustBeLower_0, r_is2 dX1_mustBeLower_1, r_iconst dX1_mustBeLower_2 ki0, r_is3 dX1_mustBeLower_3, List.cons_append, List.nil_append, Nat.reduceAdd, Option.toList, cat_f, cat_i, cat_n, cat_r, eq_self, true_and, z0]
  refine up_loop n (fun k => E1 X EV d 1 0 0 (some .int) false cX1_mustBeLower Q 4 [.ref p, .int t, .int (mlow t (A 12) k), .int (nI k)] [] 0 0 hm hs) ?_ ?_ 0 (Nat.zero_le n)
  · skip
    simp only [r_il3 dX1_mustBeLower_4, r_al0 dX1_mustBeLower_5, r_getf dX1_mustBeLower_6 F1_18, r_ic_ge (tgt := 35) dX1_mustBeLower_9 rfl, r_il1 dX1_mustBeLower_12, r_il3 dX1_mustBeLower_13, r_ishr dX1_mustBeLower_14, r_iconst dX1_mustBeLower_15 ki1, r_iand dX1_mustBeLower_16, r_if_eq (tgt := 29) dX1_mustBeLower_17 rfl, r_il2 dX1_mustBeLower_20, r_al0 dX1_mustBeLower_21, r_getf dX1_mustBeLower_22 F1_49, r_il3 dX1_mustBeLower_25, r_iald dX1_mustBeLower_26, r_ior dX1_mustBeLower_27, r_is2 dX1_mustBeLower_28, r_ii3 dX1_mustBeLower_29 kn1, r_gotoB (tgt := 4) dX1_mustBeLower_32 rfl, r_il2 dX1_mustBeLower_35, r_iret dX1_mustBeLower_36 (Nat.zero_le _) (Nat.zero_le _), List.cons_append, List.nil_append, Nat.reduceAdd, Option.toList, aI_ok, cat_f, cat_i, cat_n, cat_r, eq_self, g1_12, g1_2, true_and, z0, rd_own hP.r, hn]
    exact ⟨fun _ => hQ, fun h => absurd (Int32.le_refl _) h⟩
  · intro k hk ih
    simp only [r_il3 dX1_mustBeLower_4, r_al0 dX1_mustBeLower_5, r_getf dX1_mustBeLower_6 F1_18, r_ic_ge (tgt := 35) dX1_mustBeLower_9 rfl, r_il1 dX1_mustBeLower_12, r_il3 dX1_mustBeLower_13, r_ishr dX1_mustBeLower_14, r_iconst dX1_mustBeLower_15 ki1, r_iand dX1_mustBeLower_16, r_if_eq (tgt := 29) dX1_mustBeLower_17 rfl, r_il2 dX1_mustBeLower_20, r_al0 dX1_mustBeLower_21, r_getf dX1_mustBeLower_22 F1_49, r_il3 dX1_mustBeLower_25, r_iald dX1_mustBeLower_26, r_ior dX1_mustBeLower_27, r_is2 dX1_mustBeLower_28, r_ii3 dX1_mustBeLower_29 kn1, r_gotoB (tgt := 4) dX1_mustBeLower_32 rfl, r_il2 dX1_mustBeLower_35, r_iret dX1_mustBeLower_36 (Nat.zero_le _) (Nat.zero_le _), List.cons_append, List.nil_append, Nat.reduceAdd, Option.toList, aI_ok, cat_f, cat_i, cat_n, cat_r, eq_self, g1_12, g1_2, true_and, z0, rd_own hP.r, rd_own hP.r12, hn, tst0 (show k < 32 by omega)]
    simp (disch := omega) only [E2, nI_1, nI_add, nI_leI, nI_ltI, nI_eq, nI_clamp]
    have h1 := vp_in_nI (show k < 12 by omega) (by omega)
    unfold mlow at ih
    grind
theorem c_readyAfter {t : Int32} (hP : PG hm p u A) (hn : u 2 = nI n) (hn12 : n ≤ 12) (hQ : Q (some (.int (rdy (A 12) t n))) hm hs) : CC X EV (d + 1) 28 [.ref p, .int t] hm hs Q := by
  refine c_of (ls2 := [.ref p, .int t, .null, .null]) Y28 (Nat.le_of_ble_eq_true rfl) rfl I28 ?_
  simp only [r_iconst dX1_readyAfter_0 ki0, r_is2 dX1_readyAfter_1, r_iconst dX1_readyAfter_2 ki0, r_is3 dX1_readyAfter_3, List.cons_append, List.nil_append, Nat.reduceAdd, Option.toList, cat_f, cat_i, cat_n, cat_r, eq_self, true_and, z0]
  refine up_loop n (fun k => E1 X EV d 1 0 0 (some .int) false cX1_readyAfter Q 4 [.ref p, .int t, .int (rdy (A 12) t k), .int (nI k)] [] 0 0 hm hs) ?_ ?_ 0 (Nat.zero_le n)
  · skip
    simp only [r_il3 dX1_readyAfter_4, r_al0 dX1_readyAfter_5, r_getf dX1_readyAfter_6 F1_18, r_ic_ge (tgt := 45) dX1_readyAfter_9 rfl, r_il1 dX1_readyAfter_12, r_il3 dX1_readyAfter_13, r_ishr dX1_readyAfter_14, r_iconst dX1_readyAfter_15 ki1, r_iand dX1_readyAfter_16, r_if_ne (tgt := 39) dX1_readyAfter_17 rfl, r_al0 dX1_readyAfter_20, r_getf dX1_readyAfter_21 F1_49, r_il3 dX1_readyAfter_24, r_iald dX1_readyAfter_25, r_il1 dX1_readyAfter_26, r_iconst dX1_readyAfter_27 kim1, r_ixor dX1_readyAfter_28, r_iand dX1_readyAfter_29, r_if_ne (tgt := 39) dX1_readyAfter_30 rfl, r_il2 dX1_readyAfter_33, r_iconst dX1_readyAfter_34 ki1, r_il3 dX1_readyAfter_35, r_ishl dX1_readyAfter_36, r_ior dX1_readyAfter_37, r_is2 dX1_readyAfter_38, r_ii3 dX1_readyAfter_39 kn1, r_gotoB (tgt := 4) dX1_readyAfter_42 rfl, r_il2 dX1_readyAfter_45, r_iret dX1_readyAfter_46 (Nat.zero_le _) (Nat.zero_le _), List.cons_append, List.nil_append, Nat.reduceAdd, Option.toList, aI_ok, cat_f, cat_i, cat_n, cat_r, eq_self, g1_12, g1_2, true_and, z0, rd_own hP.r, hn]
    exact ⟨fun _ => hQ, fun h => absurd (Int32.le_refl _) h⟩
  · intro k hk ih
    simp only [r_il3 dX1_readyAfter_4, r_al0 dX1_readyAfter_5, r_getf dX1_readyAfter_6 F1_18, r_ic_ge (tgt := 45) dX1_readyAfter_9 rfl, r_il1 dX1_readyAfter_12, r_il3 dX1_readyAfter_13, r_ishr dX1_readyAfter_14, r_iconst dX1_readyAfter_15 ki1, r_iand dX1_readyAfter_16, r_if_ne (tgt := 39) dX1_readyAfter_17 rfl, r_al0 dX1_readyAfter_20, r_getf dX1_readyAfter_21 F1_49, r_il3 dX1_readyAfter_24, r_iald dX1_readyAfter_25, r_il1 dX1_readyAfter_26, r_iconst dX1_readyAfter_27 kim1, r_ixor dX1_readyAfter_28, r_iand dX1_readyAfter_29, r_if_ne (tgt := 39) dX1_readyAfter_30 rfl, r_il2 dX1_readyAfter_33, r_iconst dX1_readyAfter_34 ki1, r_il3 dX1_readyAfter_35, r_ishl dX1_readyAfter_36, r_ior dX1_readyAfter_37, r_is2 dX1_readyAfter_38, r_ii3 dX1_readyAfter_39 kn1, r_gotoB (tgt := 4) dX1_readyAfter_42 rfl, r_il2 dX1_readyAfter_45, r_iret dX1_readyAfter_46 (Nat.zero_le _) (Nat.zero_le _), List.cons_append, List.nil_append, Nat.reduceAdd, Option.toList, aI_ok, cat_f, cat_i, cat_n, cat_r, eq_self, g1_12, g1_2, true_and, z0, rd_own hP.r, rd_own hP.r12, hn, tst0 (show k < 32 by omega)]
    simp (disch := omega) only [E2, nI_1, nI_add, nI_leI, nI_ltI, nI_eq, nI_clamp]
    have h1 := vp_in_nI (show k < 12 by omega) (by omega)
    unfold rdy acc sb at ih
    unfold rdy
    grind
theorem c_topOf {t : Int32} (hP : PG hm p u A) (hn : u 2 = nI n) (hn12 : n ≤ 12) (hQ : Q (some (.int (topv (A 12) t n))) hm hs) : CC X EV (d + 1) 32 [.ref p, .int t] hm hs Q := by
  refine c_of (ls2 := [.ref p, .int t, .null, .null]) Y32 (Nat.le_of_ble_eq_true rfl) rfl I32 ?_
  simp only [r_iconst dX1_topOf_0 ki0, r_is2 dX1_topOf_1, List.cons_append, List.nil_append, Nat.reduceAdd, Option.toList, cat_f, cat_i, cat_n, cat_r, eq_self, true_and, z0]
  suffices H : ∀ k, k ≤ n → ∀ w, (∀ j, j < k → ¬ (bt t j = true ∧ t &&& ((A 12 j ||| sb j) ^^^ (-1)) = 0)) → E1 X EV d 1 0 0 (some .int) false cX1_topOf Q 2 [.ref p, .int t, .int (nI k), w] [] 0 0 hm hs from H 0 (Nat.zero_le n) _ (fun j hj => absurd hj (Nat.not_lt_zero j))
  refine up_loop n _ ?_ ?_
  · intro w hw
    simp only [r_il2 dX1_topOf_2, r_al0 dX1_topOf_3, r_getf dX1_topOf_4 F1_18, r_ic_ge (tgt := 53) dX1_topOf_7 rfl, r_il1 dX1_topOf_10, r_il2 dX1_topOf_11, r_ishr dX1_topOf_12, r_iconst dX1_topOf_13 ki1, r_iand dX1_topOf_14, r_if_eq (tgt := 22) dX1_topOf_15 rfl, r_iconst dX1_topOf_18 ki1, r_goto (tgt := 23) dX1_topOf_19 rfl, r_iconst dX1_topOf_22 ki0, r_is3 dX1_topOf_23, r_iconst dX1_topOf_53 kim1, r_iret dX1_topOf_54 (Nat.zero_le _) (Nat.zero_le _), List.cons_append, List.nil_append, Nat.reduceAdd, Option.toList, cat_f, cat_i, cat_n, cat_r, eq_self, g1_2, true_and, z0, rd_own hP.r, hn]
    refine ⟨fun _ => ?_, fun h => absurd (Int32.le_refl _) h⟩
    rw [topv, fst1_none hw] at hQ
    exact hQ
  · intro k hk ih w hw
    simp only [r_il2 dX1_topOf_2, r_al0 dX1_topOf_3, r_getf dX1_topOf_4 F1_18, r_ic_ge (tgt := 53) dX1_topOf_7 rfl, r_il1 dX1_topOf_10, r_il2 dX1_topOf_11, r_ishr dX1_topOf_12, r_iconst dX1_topOf_13 ki1, r_iand dX1_topOf_14, r_if_eq (tgt := 22) dX1_topOf_15 rfl, r_iconst dX1_topOf_18 ki1, r_goto (tgt := 23) dX1_topOf_19 rfl, r_iconst dX1_topOf_22 ki0, r_is3 dX1_topOf_23, r_il3 dX1_topOf_24, r_if_eq (tgt := 47) dX1_topOf_25 rfl, r_il1 dX1_topOf_28, r_al0 dX1_topOf_29, r_getf dX1_topOf_30 F1_49, r_il2 dX1_topOf_33, r_iald dX1_topOf_34, r_iconst dX1_topOf_35 ki1, r_il2 dX1_topOf_36, r_ishl dX1_topOf_37, r_ior dX1_topOf_38, r_iconst dX1_topOf_39 kim1, r_ixor dX1_topOf_40, r_iand dX1_topOf_41, r_if_ne (tgt := 47) dX1_topOf_42 rfl, r_il2 dX1_topOf_45, r_iret dX1_topOf_46 (Nat.zero_le _) (Nat.zero_le _), r_ii2 dX1_topOf_47 kn1, r_gotoB (tgt := 2) dX1_topOf_50 rfl, r_iconst dX1_topOf_53 kim1, r_iret dX1_topOf_54 (Nat.zero_le _) (Nat.zero_le _), List.cons_append, List.nil_append, Nat.reduceAdd, Option.toList, aI_ok, cat_f, cat_i, cat_n, cat_r, eq_self, g1_12, g1_2, true_and, z0, rd_own hP.r, rd_own hP.r12, hn, tst0 (show k < 32 by omega)]
    simp (disch := omega) only [E2, nI_1, nI_add, nI_leI, nI_ltI, nI_eq, nI_clamp]
    have h1 := vp_in_nI (show k < 12 by omega) (by omega)
    have h2 : bt t k = true ∧ t &&& ((A 12 k ||| sb k) ^^^ (-1)) = 0 → topv (A 12) t n = nI k := fun h => fst1_some (by omega) hk h hw
    have h3 : ∀ w, ¬ (bt t k = true ∧ t &&& ((A 12 k ||| sb k) ^^^ (-1)) = 0) → E1 X EV d 1 0 0 (some .int) false cX1_topOf Q 2 [.ref p, .int t, .int (nI (k + 1)), w] [] 0 0 hm hs := fun w h => ih w (fun j hj => by
      rcases Nat.lt_or_ge j k with h' | h'
      · exact hw j h'
      · rw [show j = k by omega]; exact h)
    unfold sb at h2 h3
    trace_state
    grind
end P1
