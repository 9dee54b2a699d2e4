def swp {α : Type} (V : Nat → α) : Nat → α := fun k => if k = 0 then V 1 else if k = 1 then V 0 else if k = 2 then V 3 else if k = 3 then V 2 else V k
section W1
variable {X : HM} {EV : Nat → Value} {d : Nat} {hm : HM} {hs : Nat} {Q : QT} {t pa pb qa qb : Nat} {V : Nat → Nat → Int32} {AA : Nat → Nat → Nat → Int32} {R : Nat → Int64}
theorem TW.swap (h : TW hm t pa pb qa qb V AA R) {u : Nat → Int32} : TW (im_up hm t (.inr (9, fs_TH (thA t pb pa qb qa) u))) t pb pa qb qa (va_up (swp V) 13 u) (swp AA) R := by
  have ha := h.ad
  have hb : adO t pb pa qb qa := by unfold adO at ha ⊢; omega
  unfold adO at ha
  exact ⟨hb, up_eq _ _ _, (up_ne (by omega)).trans h.ro, h.sp.k (by omega), h.pg.k (by omega), h.ss.k (by omega), h.sc.k (by omega), h.tp.k (by omega), h.rg.k (by omega), h.ac.k (by omega), h.ta.k (by omega), h.si.k (by omega), h.r0.k (by omega), h.r1.k (by omega), h.r2.k (by omega), h.r3.k (by omega)⟩
theorem c_takeSpareLeaf (hW : TW hm t pa pb qa qb V AA R)
    (hQ : ∀ hm' V', TW hm' t pb pa qb qa V' (swp AA) R → V' 6 = upd (V 6) 0 0 → V' 7 = upd (upd (V 7) 0 1) 1 1 → V' 8 = upd (V 8) 0 1 → (∀ k, k ≠ 6 → k ≠ 7 → k ≠ 8 → V' k = swp V k) → sm t (t + 70) hm hm' → Q none hm' hs) : CC X EV (d + 2) 102 [.ref t] hm hs Q := by
  have hac := hW.ac
  have ef : ∀ u, fs_TH (va_up (va_up (va_up (va_up (thA t pa pb qa qb) 0 pb) 1 pa) 2 qb) 3 qa) u = fs_TH (thA t pb pa qb qa) u := fun u => rfl
  refine c_of (ls2 := [.ref t, .null, .null]) Y102 (Nat.le_of_ble_eq_true rfl) rfl I102 ?_
  simp (disch := first | omega | (simp only [List.length_cons, List.length_nil]; omega)) only [r_al0 dX9_takeSpareLeaf_0, r_getf dX9_takeSpareLeaf_1 F9_10, r_as1 dX9_takeSpareLeaf_4, r_al0 dX9_takeSpareLeaf_5, r_al0 dX9_takeSpareLeaf_6, r_getf dX9_takeSpareLeaf_7 F9_16, r_putf dX9_takeSpareLeaf_10 F9_10, r_al0 dX9_takeSpareLeaf_13, r_al1 dX9_takeSpareLeaf_14, r_putf dX9_takeSpareLeaf_15 F9_16, r_al0 dX9_takeSpareLeaf_18, r_getf dX9_takeSpareLeaf_19 F9_22, r_as2 dX9_takeSpareLeaf_22, r_al0 dX9_takeSpareLeaf_23, r_al0 dX9_takeSpareLeaf_24, r_getf dX9_takeSpareLeaf_25 F9_26, r_putf dX9_takeSpareLeaf_28 F9_22, r_al0 dX9_takeSpareLeaf_31, r_al2 dX9_takeSpareLeaf_32, r_putf dX9_takeSpareLeaf_33 F9_26, r_al0 dX9_takeSpareLeaf_36, r_getf dX9_takeSpareLeaf_37 F9_46, r_iconst dX9_takeSpareLeaf_40 ki0, r_putf dX9_takeSpareLeaf_41 F9_105, r_al0 dX9_takeSpareLeaf_44, List.cons_append, List.nil_append, Nat.reduceAdd, Option.toList, cat_f, cat_i, cat_n, cat_r, eq_self, fit_i, fit_o, ft0_0, ft9_0, ft9_1, ft9_2, ft9_3, g9_0, g9_1, g9_2, g9_3, g9_6, p0_0, p9_0, p9_1, p9_2, p9_3, pk_un, pk_us, rd_up_eq, rd_up_ne, true_and, up_eq, up_ne, up_up, z0, hW.r, rd_own hW.r, hW.r, rd_own hW.r, th_0, th_1, th_2, th_3, th_4, th_5, th_6, th_7, th_8, th_9, hac.r, rd_own hac.r, hac.r, rd_own hac.r, vu_eq, vu_ne]
  rw [ef]
  have h1 := hW.swap (u := V 13)
  have h2 := h1.s_ac (h1.ac.o (upd (V 6) 0 0)) (sm.rf.up (by omega))
  rw [va_self] at h2
  refine r_iv1 dX9_takeSpareLeaf_45 M9_106 Y111 O111 (Nat.le_of_ble_eq_true rfl) (rcv_own h2.r) (Nat.le_refl _) (Nat.le_refl _) ?_
  refine c_linksChanged h2 (fun hm' h3 s3 => ?_)
  simp only [r_vret dX9_takeSpareLeaf_48 (Nat.zero_le _) (Nat.zero_le _), List.cons_append, List.nil_append, Nat.reduceAdd, Option.toList, z0]
  refine hQ hm' _ h3 rfl rfl rfl (fun k k6 k7 k8 => ?_) (((sm.rf.up (by omega)).up (by omega)).trans s3)
  rw [vu_ne k8, vu_ne k7, vu_ne k6]
  by_cases h : k = 13
  · rw [h, vu_eq]; rfl
  · rw [vu_ne h]
theorem c_tell {a : Int32} {z rd : Nat} (hW : TW hm t pa pb qa qb V AA R) (ez : V 4 0 = nI z) (hz : z ≤ 900) (hrd : t + 70 ≤ rd)
    (h0 : ¬ (0 ≤ a ∧ a ≤ nI z) → Q (some (.int (-3))) hm rd)
    (H : ∀ e, e ≤ z → a = nI e → ∀ hm1 u, RX hm1 hm1 rd (t + 43) pb qb (t + 45) u (V 4) (AA 4) (V 1) (AA 1) (V 3) (AA 3) (V 5) (AA 5) → TW hm1 t pa pb qa qb V AA R → (∀ x, x ≠ rd → hm1 x = hm x) → u 0 = 0 → u 1 = -1 → u 2 = 0 → u 4 = nI e → u 8 = 0 →
      CC X EV (d + 7) 36 [.ref rd] hm1 (rd + 1) (fun v hm2 hs2 => v = none ∧ hs2 = rd + 1 ∧ ∃ u2 pu pA su sA gu gA, RX hm1 hm2 rd (t + 43) pb qb (t + 45) u2 (V 4) (AA 4) pu pA su sA gu gA ∧
        (¬ u2 0 = 0 → ∀ hm' V', TW hm' t pa pb qa qb V' (va_up (va_up (va_up AA 1 pA) 3 sA) 5 gA) R → V' 1 = pu → V' 3 = su → V' 5 = gu → V' 4 = upd (V 4) 0 0 → V' 13 = upd (upd (V 13) 10 (u2 0)) 11 (u2 1) → (∀ k, k ≠ 1 → k ≠ 3 → k ≠ 4 → k ≠ 5 → k ≠ 13 → V' k = V k) → (∀ x, (x < t ∨ t + 70 ≤ x) → x ≠ rd → hm' x = hm x) → Q (some (.int (-30 - u2 0))) hm' (rd + 1)) ∧
        (u2 0 = 0 → ∀ hm' V', TW hm' t pb pa qb qa V' (swp (va_up (va_up (va_up AA 1 pA) 3 sA) 5 gA)) R → V' 0 = pu → V' 2 = su → V' 1 = V 0 → V' 3 = V 2 → V' 4 = upd (V 4) 0 0 → V' 5 = gu → V' 6 = upd (V 6) 0 0 → V' 7 = upd (upd (V 7) 0 1) 1 1 → V' 8 = upd (V 8) 0 1 → V' 13 = upd (upd (V 13) 10 (u2 0)) 11 (u2 1) → (∀ k, 9 ≤ k → k ≠ 13 → V' k = V k) → (∀ x, (x < t ∨ t + 70 ≤ x) → x ≠ rd → hm' x = hm x) → Q (some (.int (u2 2))) hm' (rd + 1)))) :
    CC X EV (d + 8) 101 [.ref t, .int a] hm rd Q := by
  have had := hW.ad
  unfold adO at had
  have htp := hW.tp
  have hW1 : TW (im_up hm rd (.inr (2, im_dfs 2))) t pa pb qa qb V AA R := hW.k (by omega)
  refine c_of (ls2 := [.ref t, .int a, .null]) Y101 (Nat.le_of_ble_eq_true rfl) rfl I101 ?_
  simp (disch := first | omega | (simp only [List.length_cons, List.length_nil]; omega)) only [r_il1 dX9_tell_0, r_if_lt (tgt := 15) dX9_tell_1 rfl, r_il1 dX9_tell_4, r_al0 dX9_tell_5, r_getf dX9_tell_6 F9_32, r_getf dX9_tell_9 F9_78, r_ic_le (tgt := 18) dX9_tell_12 rfl, r_bipush dX9_tell_15 kbm3, r_iret dX9_tell_17, r_new dX9_tell_18 N9_85, r_dup_i dX9_tell_21, r_dup_r dX9_tell_21, r_al0 dX9_tell_22, r_getf dX9_tell_23 F9_32, r_il1 dX9_tell_26, r_al0 dX9_tell_27, r_getf dX9_tell_28 F9_16, r_al0 dX9_tell_31, r_getf dX9_tell_32 F9_26, r_al0 dX9_tell_35, r_getf dX9_tell_36 F9_39, List.cons_append, List.nil_append, Nat.reduceAdd, Option.toList, g8_0, g9_1, g9_3, g9_4, g9_5, z0, hW.r, rd_own hW.r, hW.r, rd_own hW.r, hW1.r, rd_own hW1.r, hW1.r, rd_own hW1.r, th_0, th_1, th_2, th_3, th_4, th_5, th_6, th_7, th_8, th_9, htp.r, rd_own htp.r, htp.r, rd_own htp.r, ez, show im_N 2 = 13 from rfl, Nat.reduceLeDiff, Nat.reduceAdd, true_and, and_true, and_self, Nat.zero_add, Nat.le_refl]
  refine ⟨fun k => h0 (by grind), fun k => ⟨fun k2 => ?_, fun k2 => h0 (by grind)⟩⟩
  obtain ⟨e, he, ee⟩ := ixle (by omega) (by grind) k2
  have H := H e he ee
  refine r_isp6 dX9_tell_39 M9_87 Y35 (Nat.le_of_ble_eq_true rfl) (Nat.le_of_ble_eq_true rfl) (Nat.le_of_ble_eq_true rfl) ?_
  refine c_rdInit (up_eq _ _ _) hW1.tp hW1.sp hW1.ss hW1.rg (by unfold adX; omega) (fun hm1 u hX g0 g1 g2 g4 g8 gf => ?_)
  have hfr : ∀ x, x ≠ rd → hm1 x = hm x := fun x hx => by rw [gf x hx, up_ne hx]
  have hs1 : sm rd (rd + 1) hm hm1 := fun x hx => hfr x (by omega)
  have hWa : TW hm1 t pa pb qa qb V AA R := hW.s hs1 (by omega)
  have hX1 : RX hm1 hm1 rd (t + 43) pb qb (t + 45) u (V 4) (AA 4) (V 1) (AA 1) (V 3) (AA 3) (V 5) (AA 5) := ⟨hX.r, hX.tt, hX.pg, hX.sc, hX.rg, hX.ad, fun _ _ _ _ _ => rfl⟩
  simp (disch := first | omega | (simp only [List.length_cons, List.length_nil]; omega)) only [r_as2 dX9_tell_42, r_al2 dX9_tell_43, List.cons_append, List.nil_append, Nat.reduceAdd, Option.toList, cat_f, cat_i, cat_n, cat_r, eq_self, true_and, z0]
  refine r_iv1 dX9_tell_44 M9_90 Y36 O36 (Nat.le_of_ble_eq_true rfl) (rcv_own hX1.r) (Nat.le_of_ble_eq_true rfl) (Nat.le_of_ble_eq_true rfl) ?_
  refine c_mono (H hm1 u hX1 hWa hfr g0 g1 g2 (by rw [g4, ee]) g8) ?_
  rintro r hm2 hs2 ⟨rfl, rfl, u2, pu, pA, su, sA, gu, gA, hX2, HA, HB⟩
  have f := hX2.fr
  have hW2 : TW hm2 t pa pb qa qb (va_up (va_up (va_up V 1 pu) 3 su) 5 gu) (va_up (va_up (va_up AA 1 pA) 3 sA) 5 gA) R :=
    ⟨hWa.ad, (f _ (by omega) (by omega) (by omega) (by omega)).trans hWa.r, (f _ (by omega) (by omega) (by omega) (by omega)).trans hWa.ro, hWa.pg.fr (fun x h1 h2 => f x (by omega) (by omega) (by omega) (by omega)), hX2.pg, hWa.sc.fr (fun x h1 h2 => f x (by omega) (by omega) (by omega) (by omega)), hX2.sc, hX2.tt, hX2.rg, hWa.ac.fr (fun x h1 h2 => f x (by omega) (by omega) (by omega) (by omega)), hWa.ta.fr (fun x h1 h2 => f x (by omega) (by omega) (by omega) (by omega)), hWa.si.fr (fun x h1 h2 => f x (by omega) (by omega) (by omega) (by omega)), hWa.r0.fr (fun x h1 h2 => f x (by omega) (by omega) (by omega) (by omega)), hWa.r1.fr (fun x h1 h2 => f x (by omega) (by omega) (by omega) (by omega)), hWa.r2.fr (fun x h1 h2 => f x (by omega) (by omega) (by omega) (by omega)), hWa.r3.fr (fun x h1 h2 => f x (by omega) (by omega) (by omega) (by omega))⟩
  have hR2 := hX2.r
  have htp2 := hW2.tp
  have h3 := hW2.s_tp (htp2.o (upd (V 4) 0 0)) (sm.rf.up (by omega))
  rw [va_self] at h3
  have h4 := h3.s_th (u' := upd (upd (V 13) 10 (u2 0)) 11 (u2 1))
  have hR3 : (im_up (im_up hm2 (t + 43) (.inr (8, fs_TP (t + 43) (upd (V 4) 0 0)))) t (.inr (9, fs_TH (thA t pa pb qa qb) (upd (upd (V 13) 10 (u2 0)) 11 (u2 1))))) rd = some (.inr (2, fs_RD (rdA (t + 43) pb qb (t + 45)) u2)) := by
    rw [up_ne (by omega), up_ne (by omega)]; exact hR2
  have hfr4 : ∀ x, (x < t ∨ t + 70 ≤ x) → x ≠ rd → (im_up (im_up hm2 (t + 43) (.inr (8, fs_TP (t + 43) (upd (V 4) 0 0)))) t (.inr (9, fs_TH (thA t pa pb qa qb) (upd (upd (V 13) 10 (u2 0)) 11 (u2 1))))) x = hm x := fun x hx hr => by
    rw [up_ne (by omega), up_ne (by omega), f x (by omega) (by omega) (by omega) hr]; exact hfr x hr
  have tU : (va_up (va_up (va_up V 1 pu) 3 su) 5 gu) 13 = V 13 := rfl
  have t4 : (va_up (va_up (va_up V 1 pu) 3 su) 5 gu) 4 = V 4 := rfl
  simp (disch := first | omega | (simp only [List.length_cons, List.length_nil]; omega)) only [r_al0 dX9_tell_47, r_getf dX9_tell_48 F9_32, r_iconst dX9_tell_51 ki0, r_putf dX9_tell_52 F9_78, r_al0 dX9_tell_55, r_al2 dX9_tell_56, r_getf dX9_tell_57 F9_93, r_putf dX9_tell_60 F9_71, r_al0 dX9_tell_63, r_al2 dX9_tell_64, r_getf dX9_tell_65 F9_96, r_putf dX9_tell_68 F9_75, r_al0 dX9_tell_71, r_getf dX9_tell_72 F9_71, r_if_eq (tgt := 86) dX9_tell_75 rfl, r_bipush dX9_tell_78 kbm30, r_al0 dX9_tell_80, r_getf dX9_tell_81 F9_71, r_isub dX9_tell_84, r_iret dX9_tell_85, r_al0 dX9_tell_86, List.cons_append, List.nil_append, Nat.reduceAdd, Option.toList, fit_i, ft8_0, ft9_10, ft9_11, g2_0, g2_1, g9_10, g9_4, p8_0, p9_10, p9_11, pk_un, pk_us, rd_up_eq, rd_up_ne, true_and, up_eq, up_ne, up_up, z0, hW2.r, rd_own hW2.r, hW2.r, rd_own hW2.r, th_0, th_1, th_2, th_3, th_4, th_5, th_6, th_7, th_8, th_9, htp2.r, rd_own htp2.r, htp2.r, rd_own htp2.r, hR2, rd_own hR2, tU, t4]
  refine ⟨fun k3 => ?_, fun k3 => ?_⟩
  · skip
    refine r_iv1 dX9_tell_87 M9_99 Y102 O102 (Nat.le_of_ble_eq_true rfl) (rcv_own h4.r) (Nat.le_of_ble_eq_true rfl) (Nat.le_of_ble_eq_true rfl) ?_
    refine c_takeSpareLeaf h4 (fun hm5 V5 hW5 a6 a7 a8 ak s5 => ?_)
    have hR5 : hm5 rd = some (.inr (2, fs_RD (rdA (t + 43) pb qb (t + 45)) u2)) := (s5 rd (by omega)).trans hR3
    simp (disch := first | omega | (simp only [List.length_cons, List.length_nil]; omega)) only [r_al2 dX9_tell_90, r_getf dX9_tell_91 F9_102, r_iret dX9_tell_94, List.cons_append, List.nil_append, Nat.reduceAdd, Option.toList, g2_2, z0, hR5, rd_own hR5]
    refine HB k3 hm5 V5 hW5 ?_ ?_ ?_ ?_ ?_ ?_ a6 a7 a8 ?_ (fun k q1 q2 => ?_) (fun x hx hr => (s5 x hx).trans (hfr4 x hx hr))
    · rw [ak 0 (by decide) (by decide) (by decide)]; rfl
    · rw [ak 2 (by decide) (by decide) (by decide)]; rfl
    · rw [ak 1 (by decide) (by decide) (by decide)]; rfl
    · rw [ak 3 (by decide) (by decide) (by decide)]; rfl
    · rw [ak 4 (by decide) (by decide) (by decide)]; rfl
    · rw [ak 5 (by decide) (by decide) (by decide)]; rfl
    · rw [ak 13 (by decide) (by decide) (by decide)]; rfl
    · rw [ak k (by omega) (by omega) (by omega)]
      unfold swp
      rw [if_neg (by omega), if_neg (by omega), if_neg (by omega), if_neg (by omega), vu_ne q2, vu_ne (by omega), vu_ne (by omega), vu_ne (by omega), vu_ne (by omega)]
  · exact HA k3 _ _ h4 rfl rfl rfl rfl rfl (fun k q1 q3 q4 q5 q13 => by rw [vu_ne q13, vu_ne q4, vu_ne q5, vu_ne q3, vu_ne q1]) hfr4
end W1
