/-! ===== new objects ===== -/
theorem dfs2 : im_dfs 2 = [.int 0, .int 0, .int 0, .null, .int 0, .null, .null, .null, .int 0, .int 0, .int 0, .int 0, .int 0] := rfl
section N1
variable {X : HM} {EV : Nat → Value} {d : Nat} {hm : HM} {hs : Nat} {Q : QT} {B n : Nat}
theorem c_rdInit {rd tp p s g : Nat} {e : Int32} {tu pu su gu : Nat → Int32} {tA pA sA gA : Nat → Nat → Int32} (hR : hm rd = some (.inr (2, im_dfs 2))) (hT : TP hm tp tu tA) (hP : PG hm p pu pA) (hS : SC hm s su sA) (hG : RG hm g gu gA) (ha : adX rd tp p s g)
    (hQ : ∀ hm' u, RX hm hm' rd tp p s g u tu tA pu pA su sA gu gA → u 0 = 0 → u 1 = -1 → u 2 = 0 → u 4 = e → u 8 = 0 → (∀ x, x ≠ rd → hm' x = hm x) → Q none hm' hs) : CC X EV (d + 1) 35 [.ref rd, .ref tp, .int e, .ref p, .ref s, .ref g] hm hs Q := by
  have ha' := ha
  unfold adX at ha'
  rw [dfs2] at hR
  refine c_of (ls2 := [.ref rd, .ref tp, .int e, .ref p, .ref s, .ref g]) Y35 (Nat.le_of_ble_eq_true rfl) rfl I35 ?_
  simp (disch := first | omega | (simp only [List.length_cons, List.length_nil]; omega)) only [r_al0 dX2_init_0, r_obj dX2_init_1 M2_3, r_al0 dX2_init_4, r_iconst dX2_init_5 ki0, r_putf dX2_init_6 F2_9, r_al0 dX2_init_9, r_iconst dX2_init_10 kim1, r_putf dX2_init_11 F2_15, r_al0 dX2_init_14, r_iconst dX2_init_15 ki0, r_putf dX2_init_16 F2_18, r_al0 dX2_init_19, r_iconst dX2_init_20 ki0, r_putf dX2_init_21 F2_21, r_al0 dX2_init_24, r_iconst dX2_init_25 ki0, r_putf dX2_init_26 F2_24, r_al0 dX2_init_29, r_iconst dX2_init_30 ki0, r_putf dX2_init_31 F2_27, r_al0 dX2_init_34, r_iconst dX2_init_35 ki0, r_putf dX2_init_36 F2_30, r_al0 dX2_init_39, r_iconst dX2_init_40 ki0, r_putf dX2_init_41 F2_33, r_al0 dX2_init_44, r_al1 dX2_init_45, r_putff dX2_init_46 F2_36, r_al0 dX2_init_49, r_il2 dX2_init_50, r_putff dX2_init_51 F2_40, r_al0 dX2_init_54, r_al3 dX2_init_55, r_putff dX2_init_56 F2_43, r_al0 dX2_init_59, r_al4 dX2_init_60, r_putff dX2_init_62 F2_47, r_al0 dX2_init_65, r_al5 dX2_init_66, r_putff dX2_init_68 F2_51, r_vret dX2_init_71 (Nat.zero_le _) (Nat.zero_le _), List.cons_append, List.length_cons, List.length_nil, List.nil_append, Nat.le_refl, Nat.reduceAdd, Nat.reduceLeDiff, Nat.zero_le, Option.toList, and_true, fit_i, fit_o, ft2_0, ft2_1, ft2_10, ft2_11, ft2_12, ft2_2, ft2_3, ft2_4, ft2_5, ft2_6, ft2_7, ft2_8, ft2_9, pk_un, pk_us, px2_0, px2_1, px2_10, px2_11, px2_12, px2_2, px2_3, px2_4, px2_5, px2_6, px2_7, px2_8, px2_9, rd_up_eq, rd_up_ne, true_and, up_eq, up_ne, up_up, z0, hR, rd_own hR, hT.r, hP.r, hS.r, hG.r]
  obtain ⟨u, eu⟩ : ∃ u : Nat → Int32, u = fun k => if k = 1 then -1 else if k = 4 then e else 0 := ⟨_, rfl⟩
  have ef : [Value.int 0, Value.int (-1), Value.int 0, Value.ref tp, Value.int e, Value.ref p, Value.ref s, Value.ref g, Value.int 0, Value.int 0, Value.int 0, Value.int 0, Value.int 0] = fs_RD (rdA tp p s g) u := by rw [eu]; rfl
  rw [ef]
  refine hQ _ u ⟨up_eq _ _ _, hT.k (by omega), hP.k (by omega), hS.k (by omega), hG.k (by omega), ha, fun a _ _ _ h4 => up_ne h4⟩ ?_ ?_ ?_ ?_ ?_ (fun x hx => up_ne hx)
  · rw [eu]; rfl
  · rw [eu]; rfl
  · rw [eu]; rfl
  · rw [eu]; rfl
  · rw [eu]; rfl
theorem zia (n : Nat) : im_zero (newarray.typeOf .int) n = ia n (fun _ => 0) := rfl
theorem zla (n : Nat) : im_zero (newarray.typeOf .long) n = la n (fun _ => 0) := rfl
theorem zba (n : Nat) : im_zero (newarray.typeOf .byte) n = ba n (fun _ => 0) := rfl
theorem cl4 : Int32.toNatClampNeg 4 = 4 := rfl
theorem nn4 : ((4 : Int32) < 0) = False := eq_false (by decide)
theorem cl8 : Int32.toNatClampNeg 8 = 8 := rfl
theorem nn8 : ((8 : Int32) < 0) = False := eq_false (by decide)
theorem cl10 : Int32.toNatClampNeg 10 = 10 := rfl
theorem nn10 : ((10 : Int32) < 0) = False := eq_false (by decide)
theorem cl12 : Int32.toNatClampNeg 12 = 12 := rfl
theorem nn12 : ((12 : Int32) < 0) = False := eq_false (by decide)
theorem cl72 : Int32.toNatClampNeg 72 = 72 := rfl
theorem nn72 : ((72 : Int32) < 0) = False := eq_false (by decide)
theorem cl144 : Int32.toNatClampNeg 144 = 144 := rfl
theorem nn144 : ((144 : Int32) < 0) = False := eq_false (by decide)
theorem cl288 : Int32.toNatClampNeg 288 = 288 := rfl
theorem nn288 : ((288 : Int32) < 0) = False := eq_false (by decide)
theorem cl900 : Int32.toNatClampNeg 900 = 900 := rfl
theorem nn900 : ((900 : Int32) < 0) = False := eq_false (by decide)
theorem cl4096 : Int32.toNatClampNeg 4096 = 4096 := rfl
theorem nn4096 : ((4096 : Int32) < 0) = False := eq_false (by decide)
theorem cl217 : Int32.toNatClampNeg 217 = 217 := rfl
theorem nn217 : ((217 : Int32) < 0) = False := eq_false (by decide)
theorem cl408 : Int32.toNatClampNeg 408 = 408 := rfl
theorem nn408 : ((408 : Int32) < 0) = False := eq_false (by decide)
theorem cl48 : Int32.toNatClampNeg 48 = 48 := rfl
theorem nn48 : ((48 : Int32) < 0) = False := eq_false (by decide)
theorem dfs1 : im_dfs 1 = [.int 0, .int 0, .int 0, .int 0, .int 0, .int 0, .null, .null, .null, .null, .null, .null, .null, .null, .null] := rfl
theorem c_pgInit {p : Nat} (hR : hm p = some (.inr (1, im_dfs 1)))
    (hQ : ∀ hm', PG hm' p (fun k => if k = 0 then 3 else if k = 1 then 3 else 0) (fun _ _ => 0) → sm p (p + 10) hm hm' → Q none hm' (p + 10)) : CC X EV (d + 1) 3 [.ref p] hm (p + 1) Q := by
  rw [dfs1] at hR
  refine c_of (ls2 := [.ref p]) Y3 (Nat.le_of_ble_eq_true rfl) rfl I3 ?_
  simp (disch := first | omega | (simp only [List.length_cons, List.length_nil]; omega)) only [r_al0 dX1_init_0, r_obj dX1_init_1 M1_3, r_al0 dX1_init_4, r_iconst dX1_init_5 ki3, r_putf dX1_init_6 F1_9, r_al0 dX1_init_9, r_iconst dX1_init_10 ki3, r_putf dX1_init_11 F1_15, r_al0 dX1_init_14, r_iconst dX1_init_15 ki0, r_putf dX1_init_16 F1_18, r_al0 dX1_init_19, r_iconst dX1_init_20 ki0, r_putf dX1_init_21 F1_21, r_al0 dX1_init_24, r_iconst dX1_init_25 ki0, r_putf dX1_init_26 F1_24, r_al0 dX1_init_29, r_iconst dX1_init_30 ki0, r_putf dX1_init_31 F1_27, r_al0 dX1_init_34, r_bipush dX1_init_35 kb12, r_newa dX1_init_37, r_putff dX1_init_39 F1_30, r_al0 dX1_init_42, r_bipush dX1_init_43 kb12, r_newa dX1_init_45, r_putff dX1_init_47 F1_34, r_al0 dX1_init_50, r_bipush dX1_init_51 kb12, r_newa dX1_init_53, r_putff dX1_init_55 F1_37, r_al0 dX1_init_58, r_bipush dX1_init_59 kb12, r_newa dX1_init_61, r_putff dX1_init_63 F1_40, r_al0 dX1_init_66, r_bipush dX1_init_67 kb12, r_newa dX1_init_69, r_putff dX1_init_71 F1_43, r_al0 dX1_init_74, r_bipush dX1_init_75 kb12, r_newa dX1_init_77, r_putff dX1_init_79 F1_46, r_al0 dX1_init_82, r_bipush dX1_init_83 kb12, r_newa dX1_init_85, r_putff dX1_init_87 F1_49, r_al0 dX1_init_90, r_bipush dX1_init_91 kb12, r_newa dX1_init_93, r_putff dX1_init_95 F1_52, r_al0 dX1_init_98, r_sipush dX1_init_99 ks288, r_newa dX1_init_102, r_putff dX1_init_104 F1_55, r_vret dX1_init_107, List.cons_append, List.length_cons, List.length_nil, List.nil_append, Nat.le_refl, Nat.reduceAdd, Nat.reduceLeDiff, Nat.zero_le, Option.toList, and_true, fit_a, fit_i, ft1_0, ft1_1, ft1_10, ft1_11, ft1_12, ft1_13, ft1_14, ft1_2, ft1_3, ft1_4, ft1_5, ft1_6, ft1_7, ft1_8, ft1_9, pk_un, pk_us, px1_0, px1_1, px1_10, px1_11, px1_12, px1_13, px1_14, px1_2, px1_3, px1_4, px1_5, px1_6, px1_7, px1_8, px1_9, rd_up_eq, rd_up_ne, true_and, up_eq, up_ne, up_up, z0, hR, rd_own hR, cl12, nn12, cl288, nn288, zia, zla, true_or, or_true, and_true, not_false_eq_true, true_and, Nat.reduceLeDiff, Nat.reduceAdd, Nat.zero_add, Nat.add_assoc]
  refine hQ _ ⟨?_, ?_, ?_, ?_, ?_, ?_, ?_, ?_, ?_, ?_⟩ ?_
  all_goals first | (simp (disch := omega) only [up_eq, up_ne, Nat.add_assoc, Nat.reduceAdd]; done) | (simp (disch := omega) only [up_eq, up_ne, Nat.add_assoc, Nat.reduceAdd]; rfl) | (intro x hx; simp (disch := omega) only [up_ne])
theorem dfs5 : im_dfs 5 = [.int 0, .int 0, .int 0, .int 0, .null, .null, .null, .null, .null, .null, .null, .null, .null, .null] := rfl
theorem c_scInit {p : Nat} (hR : hm p = some (.inr (5, im_dfs 5)))
    (hQ : ∀ hm', SC hm' p (fun _ => 0) (fun _ _ => 0) → sm p (p + 11) hm hm' → Q none hm' (p + 11)) : CC X EV (d + 1) 62 [.ref p] hm (p + 1) Q := by
  rw [dfs5] at hR
  refine c_of (ls2 := [.ref p]) Y62 (Nat.le_of_ble_eq_true rfl) rfl I62 ?_
  simp (disch := first | omega | (simp only [List.length_cons, List.length_nil]; omega)) only [r_al0 dX5_init_0, r_obj dX5_init_1 M5_3, r_al0 dX5_init_4, r_iconst dX5_init_5 ki0, r_putf dX5_init_6 F5_9, r_al0 dX5_init_9, r_iconst dX5_init_10 ki0, r_putf dX5_init_11 F5_15, r_al0 dX5_init_14, r_iconst dX5_init_15 ki0, r_putf dX5_init_16 F5_18, r_al0 dX5_init_19, r_iconst dX5_init_20 ki0, r_putf dX5_init_21 F5_21, r_al0 dX5_init_24, r_bipush dX5_init_25 kb10, r_newa dX5_init_27, r_putff dX5_init_29 F5_24, r_al0 dX5_init_32, r_bipush dX5_init_33 kb10, r_newa dX5_init_35, r_putff dX5_init_37 F5_28, r_al0 dX5_init_40, r_bipush dX5_init_41 kb10, r_newa dX5_init_43, r_putff dX5_init_45 F5_31, r_al0 dX5_init_48, r_bipush dX5_init_49 kb8, r_newa dX5_init_51, r_putff dX5_init_53 F5_34, r_al0 dX5_init_56, r_bipush dX5_init_57 kb8, r_newa dX5_init_59, r_putff dX5_init_61 F5_37, r_al0 dX5_init_64, r_bipush dX5_init_65 kb8, r_newa dX5_init_67, r_putff dX5_init_69 F5_40, r_al0 dX5_init_72, r_bipush dX5_init_73 kb12, r_newa dX5_init_75, r_putff dX5_init_77 F5_43, r_al0 dX5_init_80, r_bipush dX5_init_81 kb72, r_newa dX5_init_83, r_putff dX5_init_85 F5_46, r_al0 dX5_init_88, r_iconst dX5_init_89 ki4, r_newa dX5_init_90, r_putff dX5_init_92 F5_49, r_al0 dX5_init_95, r_iconst dX5_init_96 ki4, r_newa dX5_init_97, r_putff dX5_init_99 F5_52, r_vret dX5_init_102, List.cons_append, List.length_cons, List.length_nil, List.nil_append, Nat.le_refl, Nat.reduceAdd, Nat.reduceLeDiff, Nat.zero_le, Option.toList, and_true, fit_a, fit_i, ft5_0, ft5_1, ft5_10, ft5_11, ft5_12, ft5_13, ft5_2, ft5_3, ft5_4, ft5_5, ft5_6, ft5_7, ft5_8, ft5_9, pk_un, pk_us, px5_0, px5_1, px5_10, px5_11, px5_12, px5_13, px5_2, px5_3, px5_4, px5_5, px5_6, px5_7, px5_8, px5_9, rd_up_eq, rd_up_ne, true_and, up_eq, up_ne, up_up, z0, hR, rd_own hR, cl10, nn10, cl12, nn12, cl4, nn4, cl72, nn72, cl8, nn8, zia, zla, true_or, or_true, and_true, not_false_eq_true, true_and, Nat.reduceLeDiff, Nat.reduceAdd, Nat.zero_add, Nat.add_assoc]
  refine hQ _ ⟨?_, ?_, ?_, ?_, ?_, ?_, ?_, ?_, ?_, ?_, ?_⟩ ?_
  all_goals first | (simp (disch := omega) only [up_eq, up_ne, Nat.add_assoc, Nat.reduceAdd]; done) | (simp (disch := omega) only [up_eq, up_ne, Nat.add_assoc, Nat.reduceAdd]; rfl) | (intro x hx; simp (disch := omega) only [up_ne])
theorem dfs8 : im_dfs 8 = [.int 0, .null] := rfl
theorem c_tpInit {p : Nat} (hR : hm p = some (.inr (8, im_dfs 8)))
    (hQ : ∀ hm', TP hm' p (fun _ => 0) (fun _ _ => 0) → sm p (p + 2) hm hm' → Q none hm' (p + 2)) : CC X EV (d + 1) 97 [.ref p] hm (p + 1) Q := by
  rw [dfs8] at hR
  refine c_of (ls2 := [.ref p]) Y97 (Nat.le_of_ble_eq_true rfl) rfl I97 ?_
  simp (disch := first | omega | (simp only [List.length_cons, List.length_nil]; omega)) only [r_al0 dX8_init_0, r_obj dX8_init_1 M8_3, r_al0 dX8_init_4, r_iconst dX8_init_5 ki0, r_putf dX8_init_6 F8_9, r_al0 dX8_init_9, r_sipush dX8_init_10 ks900, r_newa dX8_init_13, r_putff dX8_init_15 F8_15, r_vret dX8_init_18, List.cons_append, List.length_cons, List.length_nil, List.nil_append, Nat.le_refl, Nat.reduceAdd, Nat.reduceLeDiff, Nat.zero_le, Option.toList, and_true, fit_a, fit_i, ft8_0, ft8_1, pk_un, pk_us, px8_0, px8_1, rd_up_eq, rd_up_ne, true_and, up_eq, up_ne, up_up, z0, hR, rd_own hR, cl900, nn900, zia, zla, true_or, or_true, and_true, not_false_eq_true, true_and, Nat.reduceLeDiff, Nat.reduceAdd, Nat.zero_add, Nat.add_assoc]
  refine hQ _ ⟨?_, ?_⟩ ?_
  all_goals first | (simp (disch := omega) only [up_eq, up_ne, Nat.add_assoc, Nat.reduceAdd]; done) | (simp (disch := omega) only [up_eq, up_ne, Nat.add_assoc, Nat.reduceAdd]; rfl) | (intro x hx; simp (disch := omega) only [up_ne])
theorem dfs3 : im_dfs 3 = [.int 0, .null, .null] := rfl
theorem c_rgInit {p : Nat} (hR : hm p = some (.inr (3, im_dfs 3)))
    (hQ : ∀ hm', RG hm' p (fun _ => 0) (fun _ _ => 0) → sm p (p + 3) hm hm' → Q none hm' (p + 3)) : CC X EV (d + 1) 55 [.ref p] hm (p + 1) Q := by
  rw [dfs3] at hR
  refine c_of (ls2 := [.ref p]) Y55 (Nat.le_of_ble_eq_true rfl) rfl I55 ?_
  simp (disch := first | omega | (simp only [List.length_cons, List.length_nil]; omega)) only [r_al0 dX3_init_0, r_obj dX3_init_1 M3_3, r_al0 dX3_init_4, r_iconst dX3_init_5 ki0, r_putf dX3_init_6 F3_9, r_al0 dX3_init_9, r_bipush dX3_init_10 kb12, r_newa dX3_init_12, r_putff dX3_init_14 F3_15, r_al0 dX3_init_17, r_bipush dX3_init_18 kb12, r_newa dX3_init_20, r_putff dX3_init_22 F3_19, r_vret dX3_init_25, List.cons_append, List.length_cons, List.length_nil, List.nil_append, Nat.le_refl, Nat.reduceAdd, Nat.reduceLeDiff, Nat.zero_le, Option.toList, and_true, fit_a, fit_i, ft3_0, ft3_1, ft3_2, pk_un, pk_us, px3_0, px3_1, px3_2, rd_up_eq, rd_up_ne, true_and, up_eq, up_ne, up_up, z0, hR, rd_own hR, cl12, nn12, zia, zla, true_or, or_true, and_true, not_false_eq_true, true_and, Nat.reduceLeDiff, Nat.reduceAdd, Nat.zero_add, Nat.add_assoc]
  refine hQ _ ⟨?_, ?_, ?_⟩ ?_
  all_goals first | (simp (disch := omega) only [up_eq, up_ne, Nat.add_assoc, Nat.reduceAdd]; done) | (simp (disch := omega) only [up_eq, up_ne, Nat.add_assoc, Nat.reduceAdd]; rfl) | (intro x hx; simp (disch := omega) only [up_ne])
theorem dfs0 : im_dfs 0 = [.int 0, .int 0, .null, .null, .null] := rfl
theorem c_acInit {p : Nat} (hR : hm p = some (.inr (0, im_dfs 0)))
    (hQ : ∀ hm', AC hm' p (fun _ => 0) (fun _ _ => 0) → sm p (p + 4) hm hm' → Q none hm' (p + 4)) : CC X EV (d + 1) 0 [.ref p] hm (p + 1) Q := by
  rw [dfs0] at hR
  refine c_of (ls2 := [.ref p]) Y0 (Nat.le_of_ble_eq_true rfl) rfl I0 ?_
  simp (disch := first | omega | (simp only [List.length_cons, List.length_nil]; omega)) only [r_al0 dX0_init_0, r_obj dX0_init_1 M0_3, r_al0 dX0_init_4, r_iconst dX0_init_5 ki0, r_putf dX0_init_6 F0_9, r_al0 dX0_init_9, r_iconst dX0_init_10 ki0, r_putf dX0_init_11 F0_15, r_al0 dX0_init_14, r_bipush dX0_init_15 kb12, r_newa dX0_init_17, r_putff dX0_init_19 F0_18, r_al0 dX0_init_22, r_bipush dX0_init_23 kb12, r_newa dX0_init_25, r_putff dX0_init_27 F0_22, r_al0 dX0_init_30, r_bipush dX0_init_31 kb12, r_newa dX0_init_33, r_putff dX0_init_35 F0_25, r_vret dX0_init_38, List.cons_append, List.length_cons, List.length_nil, List.nil_append, Nat.le_refl, Nat.reduceAdd, Nat.reduceLeDiff, Nat.zero_le, Option.toList, and_true, fit_a, fit_i, ft0_0, ft0_1, ft0_2, ft0_3, ft0_4, pk_un, pk_us, px0_0, px0_1, px0_2, px0_3, px0_4, rd_up_eq, rd_up_ne, true_and, up_eq, up_ne, up_up, z0, hR, rd_own hR, cl12, nn12, zia, zla, true_or, or_true, and_true, not_false_eq_true, true_and, Nat.reduceLeDiff, Nat.reduceAdd, Nat.zero_add, Nat.add_assoc]
  refine hQ _ ⟨?_, ?_, ?_, ?_⟩ ?_
  all_goals first | (simp (disch := omega) only [up_eq, up_ne, Nat.add_assoc, Nat.reduceAdd]; done) | (simp (disch := omega) only [up_eq, up_ne, Nat.add_assoc, Nat.reduceAdd]; rfl) | (intro x hx; simp (disch := omega) only [up_ne])
theorem dfs7 : im_dfs 7 = [.int 0, .int 0, .int 0, .null, .null, .null, .null] := rfl
theorem c_taInit {p : Nat} (hR : hm p = some (.inr (7, im_dfs 7)))
    (hQ : ∀ hm', TA hm' p (fun k => if k = 0 then 1 else if k = 1 then 1 else if k = 2 then 1 else 0) (fun _ _ => 0) (fun _ => 0) → sm p (p + 5) hm hm' → Q none hm' (p + 5)) : CC X EV (d + 1) 84 [.ref p] hm (p + 1) Q := by
  rw [dfs7] at hR
  refine c_of (ls2 := [.ref p]) Y84 (Nat.le_of_ble_eq_true rfl) rfl I84 ?_
  simp (disch := first | omega | (simp only [List.length_cons, List.length_nil]; omega)) only [r_al0 dX7_init_0, r_obj dX7_init_1 M7_3, r_al0 dX7_init_4, r_iconst dX7_init_5 ki1, r_putf dX7_init_6 F7_9, r_al0 dX7_init_9, r_iconst dX7_init_10 ki1, r_putf dX7_init_11 F7_15, r_al0 dX7_init_14, r_iconst dX7_init_15 ki1, r_putf dX7_init_16 F7_18, r_al0 dX7_init_19, r_sipush dX7_init_20 ks4096, r_newa dX7_init_23, r_putff dX7_init_25 F7_22, r_al0 dX7_init_28, r_sipush dX7_init_29 ks4096, r_newa dX7_init_32, r_putff dX7_init_34 F7_26, r_al0 dX7_init_37, r_sipush dX7_init_38 ks144, r_newa dX7_init_41, r_putff dX7_init_43 F7_29, r_al0 dX7_init_46, r_bipush dX7_init_47 kb12, r_newa dX7_init_49, r_putff dX7_init_51 F7_32, r_vret dX7_init_54, List.cons_append, List.length_cons, List.length_nil, List.nil_append, Nat.le_refl, Nat.reduceAdd, Nat.reduceLeDiff, Nat.zero_le, Option.toList, and_true, fit_a, fit_i, fit_z0, fit_z1, ft7_0, ft7_1, ft7_2, ft7_3, ft7_4, ft7_5, ft7_6, pk_un, pk_us, px7_0, px7_1, px7_2, px7_3, px7_4, px7_5, px7_6, rd_up_eq, rd_up_ne, true_and, up_eq, up_ne, up_up, z0, hR, rd_own hR, cl12, nn12, cl144, nn144, cl4096, nn4096, zia, zla, true_or, or_true, and_true, not_false_eq_true, true_and, Nat.reduceLeDiff, Nat.reduceAdd, Nat.zero_add, Nat.add_assoc]
  refine hQ _ ⟨?_, ?_, ?_, ?_, ?_⟩ ?_
  all_goals first | (simp (disch := omega) only [up_eq, up_ne, Nat.add_assoc, Nat.reduceAdd]; done) | (simp (disch := omega) only [up_eq, up_ne, Nat.add_assoc, Nat.reduceAdd]; rfl) | (intro x hx; simp (disch := omega) only [up_ne])
theorem dfs6 : im_dfs 6 = [.int 0, .null, .null, .null] := rfl
theorem c_siInit {p : Nat} (hR : hm p = some (.inr (6, im_dfs 6)))
    (hQ : ∀ hm', SI hm' p (fun k => if k = 0 then 1 else 0) (fun _ _ => 0) → sm p (p + 4) hm hm' → Q none hm' (p + 4)) : CC X EV (d + 1) 81 [.ref p] hm (p + 1) Q := by
  rw [dfs6] at hR
  refine c_of (ls2 := [.ref p]) Y81 (Nat.le_of_ble_eq_true rfl) rfl I81 ?_
  simp (disch := first | omega | (simp only [List.length_cons, List.length_nil]; omega)) only [r_al0 dX6_init_0, r_obj dX6_init_1 M6_3, r_al0 dX6_init_4, r_iconst dX6_init_5 ki1, r_putf dX6_init_6 F6_9, r_al0 dX6_init_9, r_bipush dX6_init_10 kb8, r_newa dX6_init_12, r_putff dX6_init_14 F6_15, r_al0 dX6_init_17, r_bipush dX6_init_18 kb8, r_newa dX6_init_20, r_putff dX6_init_22 F6_19, r_al0 dX6_init_25, r_bipush dX6_init_26 kb8, r_newa dX6_init_28, r_putff dX6_init_30 F6_22, r_vret dX6_init_33, List.cons_append, List.length_cons, List.length_nil, List.nil_append, Nat.le_refl, Nat.reduceAdd, Nat.reduceLeDiff, Nat.zero_le, Option.toList, and_true, fit_a, fit_z0, fit_z1, ft6_0, ft6_1, ft6_2, ft6_3, pk_un, pk_us, px6_0, px6_1, px6_2, px6_3, rd_up_eq, rd_up_ne, true_and, up_eq, up_ne, up_up, z0, hR, rd_own hR, cl8, nn8, zia, zla, true_or, or_true, and_true, not_false_eq_true, true_and, Nat.reduceLeDiff, Nat.reduceAdd, Nat.zero_add, Nat.add_assoc]
  refine hQ _ ⟨?_, ?_, ?_, ?_⟩ ?_
  all_goals first | (simp (disch := omega) only [up_eq, up_ne, Nat.add_assoc, Nat.reduceAdd]; done) | (simp (disch := omega) only [up_eq, up_ne, Nat.add_assoc, Nat.reduceAdd]; rfl) | (intro x hx; simp (disch := omega) only [up_ne])
theorem dfs4 : im_dfs 4 = [.int 0, .int 0, .int 0, .null] := rfl
theorem c_rwInit {p : Nat} (hR : hm p = some (.inr (4, im_dfs 4)))
    (hQ : ∀ hm', RW hm' p (fun _ => 0) (fun _ _ => 0) → sm p (p + 2) hm hm' → Q none hm' (p + 2)) : CC X EV (d + 1) 58 [.ref p] hm (p + 1) Q := by
  rw [dfs4] at hR
  refine c_of (ls2 := [.ref p]) Y58 (Nat.le_of_ble_eq_true rfl) rfl I58 ?_
  simp (disch := first | omega | (simp only [List.length_cons, List.length_nil]; omega)) only [r_al0 dX4_init_0, r_obj dX4_init_1 M4_3, r_al0 dX4_init_4, r_iconst dX4_init_5 ki0, r_putf dX4_init_6 F4_9, r_al0 dX4_init_9, r_iconst dX4_init_10 ki0, r_putf dX4_init_11 F4_15, r_al0 dX4_init_14, r_iconst dX4_init_15 ki0, r_putf dX4_init_16 F4_19, r_al0 dX4_init_19, r_bipush dX4_init_20 kb12, r_newa dX4_init_22, r_putff dX4_init_24 F4_22, r_vret dX4_init_27, List.cons_append, List.length_cons, List.length_nil, List.nil_append, Nat.le_refl, Nat.reduceAdd, Nat.reduceLeDiff, Nat.zero_le, Option.toList, and_true, fit_a, fit_i, fit_z0, fit_z1, ft4_0, ft4_1, ft4_2, ft4_3, pk_un, pk_us, px4_0, px4_1, px4_2, px4_3, rd_up_eq, rd_up_ne, true_and, up_eq, up_ne, up_up, z0, hR, rd_own hR, cl12, nn12, zia, zla, true_or, or_true, and_true, not_false_eq_true, true_and, Nat.reduceLeDiff, Nat.reduceAdd, Nat.zero_add, Nat.add_assoc]
  refine hQ _ ⟨?_, ?_⟩ ?_
  all_goals first | (simp (disch := omega) only [up_eq, up_ne, Nat.add_assoc, Nat.reduceAdd]; done) | (simp (disch := omega) only [up_eq, up_ne, Nat.add_assoc, Nat.reduceAdd]; rfl) | (intro x hx; simp (disch := omega) only [up_ne])
end N1
