abbrev wfP (A : Nat → Nat → Int32) (F : Nat → Int32) (r f l : Nat) (w : Nat) : Prop := A 10 w = A 13 r ∧ ∀ i, i < l → bt (F (f + i)) (A 11 (6 * w + i)).toNatClampNeg = true
def wcn (c : Nat → Prop) [DecidablePred c] : Nat → Nat
  | 0 => 0
  | k + 1 => if c k then wcn c k + 1 else wcn c k
theorem wcn_le (c : Nat → Prop) [DecidablePred c] (k : Nat) : wcn c k ≤ k := by
  induction k with
  | zero => exact Nat.le_refl _
  | succ s ih => unfold wcn; split <;> omega
def likv (c : Nat → Prop) [DecidablePred c] (P : Nat → Int64) : Nat → Int32 × Int64
  | 0 => (-1, 0)
  | k + 1 => if c k ∧ (likv c P k).2 < P k then (nI k, P k) else likv c P k
def lsv (L S : Nat → Int32) : Nat → Int32
  | 0 => 0
  | k + 1 => lsv L S k + pcnt (hdv (L k) &&& (hdv (S k) ^^^ (-1)))
def scv (F : Nat → Int32) : Nat → Int32 × Int32
  | 0 => (-1, 0)
  | k + 1 => if (scv F k).2 < F k then (nI k, F k) else scv F k
section Q3
variable {X : HM} {EV : Nat → Value} {d : Nat} {hm : HM} {hs : Nat} {Q : QT} {t pa pb qa qb : Nat} {V : Nat → Nat → Int32} {AA : Nat → Nat → Nat → Int32} {R : Nat → Int64} {B n w h nl np nw nr : Nat}
theorem SZ.s {V' : Nat → Nat → Int32} {AA' : Nat → Nat → Nat → Int32} {k : Nat} (hz : SZ V AA n w h nl np nw nr) (hk : KX k V V' AA AA') (h0 : 0 ≠ k) (h2 : 2 ≠ k) : SZ V' AA' n w h nl np nw nr := by
  unfold SZ
  rw [(hk 0 h0).1, (hk 2 h2).1, (hk 2 h2).2]
  exact hz
theorem c_shows {q wh : Int32} (hW : TW hm t pa pb qa qb V AA R) (hz : SZ V AA n w h nl np nw nr) (hc : V 8 0 = 0 → siR (V 0) (AA 0) (AA 2) n nl np nw nr (AA 8))
    (h0 : ¬ ((0 ≤ q ∧ q < nI np) ∧ 0 ≤ wh ∧ wh ≤ 2) → Q (some (.int (-2))) hm hs)
    (hQ : ∀ i, i < np → q = nI i → 0 ≤ wh → wh ≤ 2 → ∀ hm' V' AA', TW hm' t pa pb qa qb V' AA' R → KX 8 V V' AA AA' → V' 8 0 = 0 → siR (V 0) (AA 0) (AA 2) n nl np nw nr (AA' 8) → sm t (t + 70) hm hm' → Q (some (.int (if wh = 0 then emv (AA' 8 1 i) else if wh = 1 then shv (AA' 8 1 i) else hdv (AA' 8 1 i)))) hm' hs) : CC X EV (d + 5) 122 [.ref t, .int q, .int wh] hm hs Q := by
  obtain ⟨-, -, -, -, ⟨e4, l4⟩, -⟩ := id hz
  refine c_of (ls2 := [.ref t, .int q, .int wh, .null]) Y122 (Nat.le_of_ble_eq_true rfl) rfl I122 ?_
  simp only [r_al0 dX9_shows_0, r_getf dX9_shows_1 F9_22, r_il1 dX9_shows_4, List.cons_append, List.nil_append, Nat.reduceAdd, Option.toList, g9_2, z0, hW.r, rd_own hW.r, hW.r, rd_own hW.r, th_0, th_1, th_2, th_3, th_4, th_5, th_6, th_7, th_8, th_9]
  refine r_iv2 dX9_shows_5 M9_272 Y65 O65 (Nat.le_of_ble_eq_true rfl) (rcv_own hW.sc.r) (Nat.le_refl _) (Nat.le_refl _) ?_
  refine c_hasPlace hW.sc ?_
  rw [e4]
  simp only [r_if_eq (tgt := 20) dX9_shows_8 rfl, r_il2 dX9_shows_11, r_if_lt (tgt := 20) dX9_shows_12 rfl, r_il2 dX9_shows_15, r_iconst dX9_shows_16 ki2, r_ic_le (tgt := 23) dX9_shows_17 rfl, r_bipush dX9_shows_20 kbm2, r_iret dX9_shows_22 (Nat.zero_le _) (Nat.zero_le _), r_al0 dX9_shows_23, r_getf dX9_shows_24 F9_60, r_al0 dX9_shows_27, r_getf dX9_shows_28 F9_10, r_al0 dX9_shows_31, r_getf dX9_shows_32 F9_22, List.cons_append, List.nil_append, Nat.reduceAdd, Option.toList, g9_0, g9_2, g9_8, z0, hW.r, rd_own hW.r, hW.r, rd_own hW.r, th_0, th_1, th_2, th_3, th_4, th_5, th_6, th_7, th_8, th_9]
  refine ⟨fun hk => h0 (fun z => hk z.1), fun hk => ⟨fun h2 => h0 (by grind), fun h2 => ⟨fun h3 => ?_, fun h3 => h0 (by grind)⟩⟩⟩
  obtain ⟨i, hi, rfl⟩ := ix (by omega) (Classical.not_not.mp hk)
  refine r_iv3 dX9_shows_35 M9_275 Y82 O82 (Nat.le_of_ble_eq_true rfl) (rcv_own hW.si.r) (Nat.le_refl _) (Nat.le_refl _) ?_
  refine c_look hW hz hc (fun hm' V' AA' hW' k1 k2 k3 k4 => ?_)
  have hp := hW'.si
  have hQ := hQ i hi rfl (by grind) h3 hm' V' AA' hW' k1 k2 k3 (k4.wide (by omega))
  simp only [r_al0 dX9_shows_38, r_getf dX9_shows_39 F9_60, r_getf dX9_shows_42 F9_278, r_il1 dX9_shows_45, r_iald dX9_shows_46, r_is3 dX9_shows_47, r_il2 dX9_shows_48, r_if_ne (tgt := 57) dX9_shows_49 rfl, r_il3 dX9_shows_52, r_il2 dX9_shows_57, r_iconst dX9_shows_58 ki1, r_ic_ne (tgt := 69) dX9_shows_59 rfl, r_il3 dX9_shows_62, r_il3 dX9_shows_69, List.cons_append, List.nil_append, Nat.reduceAdd, Option.toList, aI_ok, cat_f, cat_i, cat_n, cat_r, eq_self, g6_1, g9_8, true_and, z0, hW'.r, rd_own hW'.r, hW'.r, rd_own hW'.r, th_0, th_1, th_2, th_3, th_4, th_5, th_6, th_7, th_8, th_9, hp.r, rd_own hp.r, hp.r1, rd_own hp.r1, nI_clamp (show i < 2 ^ 31 by omega)]
  refine ⟨vp_in_nI (by omega) (by omega), fun h => ⟨fun h5 => ?_, fun h5 => ?_⟩, fun h => ?_⟩
  · skip
    refine r_ist1 dX9_shows_70 M9_287 Y133 (Nat.le_of_ble_eq_true rfl) (Nat.le_refl _) (Nat.le_refl _) ?_
    refine c_hiddenCells ?_
    simp only [r_iret dX9_shows_73 (Nat.zero_le _) (Nat.zero_le _), List.cons_append, List.nil_append, Nat.reduceAdd, Option.toList, z0]
    rw [if_neg (by grind), if_neg (by grind)] at hQ
    exact hQ
  · skip
    refine r_ist1 dX9_shows_63 M9_284 Y132 (Nat.le_of_ble_eq_true rfl) (Nat.le_refl _) (Nat.le_refl _) ?_
    refine c_shownCells ?_
    simp only [r_goto (tgt := 73) dX9_shows_66 rfl, r_iret dX9_shows_73 (Nat.zero_le _) (Nat.zero_le _), List.cons_append, List.nil_append, Nat.reduceAdd, Option.toList, z0]
    rw [if_neg (by grind), if_pos (by grind)] at hQ
    exact hQ
  · skip
    refine r_ist1 dX9_shows_53 M9_281 Y131 (Nat.le_of_ble_eq_true rfl) (Nat.le_refl _) (Nat.le_refl _) ?_
    refine c_emptyCells ?_
    simp only [r_iret dX9_shows_56 (Nat.zero_le _) (Nat.zero_le _), List.cons_append, List.nil_append, Nat.reduceAdd, Option.toList, z0]
    rw [if_pos (by grind)] at hQ
    exact hQ
theorem c_fits {q : Int32} (hW : TW hm t pa pb qa qb V AA R) (hz : SZ V AA n w h nl np nw nr) (hc : V 8 0 = 0 → siR (V 0) (AA 0) (AA 2) n nl np nw nr (AA 8))
    (h0 : ¬ (0 ≤ q ∧ q < nI np) → Q (some (.int (-2))) hm hs)
    (hQ : ∀ i, i < np → q = nI i → ∀ hm' V' AA', TW hm' t pa pb qa qb V' AA' R → KX 8 V V' AA AA' → V' 8 0 = 0 → siR (V 0) (AA 0) (AA 2) n nl np nw nr (AA' 8) → sm t (t + 70) hm hm' → Q (some (.int (AA' 8 2 i))) hm' hs) : CC X EV (d + 5) 123 [.ref t, .int q] hm hs Q := by
  obtain ⟨-, -, -, -, ⟨e4, l4⟩, -⟩ := id hz
  refine c_of (ls2 := [.ref t, .int q]) Y123 (Nat.le_of_ble_eq_true rfl) rfl I123 ?_
  simp only [r_al0 dX9_fits_0, r_getf dX9_fits_1 F9_22, r_il1 dX9_fits_4, List.cons_append, List.nil_append, Nat.reduceAdd, Option.toList, g9_2, z0, hW.r, rd_own hW.r, hW.r, rd_own hW.r, th_0, th_1, th_2, th_3, th_4, th_5, th_6, th_7, th_8, th_9]
  refine r_iv2 dX9_fits_5 M9_272 Y65 O65 (Nat.le_of_ble_eq_true rfl) (rcv_own hW.sc.r) (Nat.le_refl _) (Nat.le_refl _) ?_
  refine c_hasPlace hW.sc ?_
  rw [e4]
  simp only [r_if_ne (tgt := 14) dX9_fits_8 rfl, r_bipush dX9_fits_11 kbm2, r_iret dX9_fits_13 (Nat.zero_le _) (Nat.zero_le _), r_al0 dX9_fits_14, r_getf dX9_fits_15 F9_60, r_al0 dX9_fits_18, r_getf dX9_fits_19 F9_10, r_al0 dX9_fits_22, r_getf dX9_fits_23 F9_22, List.cons_append, List.nil_append, Nat.reduceAdd, Option.toList, g9_0, g9_2, g9_8, z0, hW.r, rd_own hW.r, hW.r, rd_own hW.r, th_0, th_1, th_2, th_3, th_4, th_5, th_6, th_7, th_8, th_9]
  refine ⟨fun hk => ?_, fun hk => h0 (Classical.not_not.mp hk)⟩
  obtain ⟨i, hi, rfl⟩ := ix (by omega) (Classical.not_not.mp hk)
  refine r_iv3 dX9_fits_26 M9_275 Y82 O82 (Nat.le_of_ble_eq_true rfl) (rcv_own hW.si.r) (Nat.le_refl _) (Nat.le_refl _) ?_
  refine c_look hW hz hc (fun hm' V' AA' hW' k1 k2 k3 k4 => ?_)
  have hp := hW'.si
  simp only [r_al0 dX9_fits_29, r_getf dX9_fits_30 F9_60, r_getf dX9_fits_33 F9_290, r_il1 dX9_fits_36, r_iald dX9_fits_37, r_iret dX9_fits_38 (Nat.zero_le _) (Nat.zero_le _), List.cons_append, List.nil_append, Nat.reduceAdd, Option.toList, aI_ok, g6_2, g9_8, z0, hW'.r, rd_own hW'.r, hW'.r, rd_own hW'.r, th_0, th_1, th_2, th_3, th_4, th_5, th_6, th_7, th_8, th_9, hp.r, rd_own hp.r, hp.r2, rd_own hp.r2, nI_clamp (show i < 2 ^ 31 by omega)]
  exact ⟨vp_in_nI (by omega) (by omega), hQ i hi rfl hm' V' AA' hW' k1 k2 k3 (k4.wide (by omega))⟩
theorem c_sure {q : Int32} (hW : TW hm t pa pb qa qb V AA R) (hz : SZ V AA n w h nl np nw nr) (hc : V 8 0 = 0 → siR (V 0) (AA 0) (AA 2) n nl np nw nr (AA 8))
    (h0 : ¬ (0 ≤ q ∧ q < nI np) → Q (some (.int (-2))) hm hs)
    (hQ : ∀ i, i < np → q = nI i → ∀ hm' V' AA', TW hm' t pa pb qa qb V' AA' R → KX 8 V V' AA AA' → V' 8 0 = 0 → siR (V 0) (AA 0) (AA 2) n nl np nw nr (AA' 8) → sm t (t + 70) hm hm' → Q (some (.int (AA' 8 3 i))) hm' hs) : CC X EV (d + 5) 124 [.ref t, .int q] hm hs Q := by
  obtain ⟨-, -, -, -, ⟨e4, l4⟩, -⟩ := id hz
  refine c_of (ls2 := [.ref t, .int q]) Y124 (Nat.le_of_ble_eq_true rfl) rfl I124 ?_
  simp only [r_al0 dX9_sure_0, r_getf dX9_sure_1 F9_22, r_il1 dX9_sure_4, List.cons_append, List.nil_append, Nat.reduceAdd, Option.toList, g9_2, z0, hW.r, rd_own hW.r, hW.r, rd_own hW.r, th_0, th_1, th_2, th_3, th_4, th_5, th_6, th_7, th_8, th_9]
  refine r_iv2 dX9_sure_5 M9_272 Y65 O65 (Nat.le_of_ble_eq_true rfl) (rcv_own hW.sc.r) (Nat.le_refl _) (Nat.le_refl _) ?_
  refine c_hasPlace hW.sc ?_
  rw [e4]
  simp only [r_if_ne (tgt := 14) dX9_sure_8 rfl, r_bipush dX9_sure_11 kbm2, r_iret dX9_sure_13 (Nat.zero_le _) (Nat.zero_le _), r_al0 dX9_sure_14, r_getf dX9_sure_15 F9_60, r_al0 dX9_sure_18, r_getf dX9_sure_19 F9_10, r_al0 dX9_sure_22, r_getf dX9_sure_23 F9_22, List.cons_append, List.nil_append, Nat.reduceAdd, Option.toList, g9_0, g9_2, g9_8, z0, hW.r, rd_own hW.r, hW.r, rd_own hW.r, th_0, th_1, th_2, th_3, th_4, th_5, th_6, th_7, th_8, th_9]
  refine ⟨fun hk => ?_, fun hk => h0 (Classical.not_not.mp hk)⟩
  obtain ⟨i, hi, rfl⟩ := ix (by omega) (Classical.not_not.mp hk)
  refine r_iv3 dX9_sure_26 M9_275 Y82 O82 (Nat.le_of_ble_eq_true rfl) (rcv_own hW.si.r) (Nat.le_refl _) (Nat.le_refl _) ?_
  refine c_look hW hz hc (fun hm' V' AA' hW' k1 k2 k3 k4 => ?_)
  have hp := hW'.si
  simp only [r_al0 dX9_sure_29, r_getf dX9_sure_30 F9_60, r_getf dX9_sure_33 F9_293, r_il1 dX9_sure_36, r_iald dX9_sure_37, r_iret dX9_sure_38 (Nat.zero_le _) (Nat.zero_le _), List.cons_append, List.nil_append, Nat.reduceAdd, Option.toList, aI_ok, g6_3, g9_8, z0, hW'.r, rd_own hW'.r, hW'.r, rd_own hW'.r, th_0, th_1, th_2, th_3, th_4, th_5, th_6, th_7, th_8, th_9, hp.r, rd_own hp.r, hp.r3, rd_own hp.r3, nI_clamp (show i < 2 ^ 31 by omega)]
  exact ⟨vp_in_nI (by omega) (by omega), hQ i hi rfl hm' V' AA' hW' k1 k2 k3 (k4.wide (by omega))⟩
theorem c_guess {q : Int32} (hW : TW hm t pa pb qa qb V AA R) (hz : SZ V AA n w h nl np nw nr) (hc : V 8 0 = 0 → siR (V 0) (AA 0) (AA 2) n nl np nw nr (AA 8))
    (h0 : ¬ (0 ≤ q ∧ q < nI np) → Q (some (.int (-2))) hm hs)
    (hQ : ∀ i, i < np → q = nI i → ∀ hm' V' AA', TW hm' t pa pb qa qb V' AA' R → KX 8 V V' AA AA' → V' 8 0 = 0 → siR (V 0) (AA 0) (AA 2) n nl np nw nr (AA' 8) → sm t (t + 70) hm hm' → Q (some (.int (heav (AA 2 6) (AA' 8 3 i) nl))) hm' hs) : CC X EV (d + 5) 126 [.ref t, .int q] hm hs Q := by
  obtain ⟨-, -, -, ⟨e3, l3⟩, ⟨e4, l4⟩, -⟩ := id hz
  refine c_of (ls2 := [.ref t, .int q]) Y126 (Nat.le_of_ble_eq_true rfl) rfl I126 ?_
  simp only [r_al0 dX9_guess_0, r_getf dX9_guess_1 F9_22, r_il1 dX9_guess_4, List.cons_append, List.nil_append, Nat.reduceAdd, Option.toList, g9_2, z0, hW.r, rd_own hW.r, hW.r, rd_own hW.r, th_0, th_1, th_2, th_3, th_4, th_5, th_6, th_7, th_8, th_9]
  refine r_iv2 dX9_guess_5 M9_272 Y65 O65 (Nat.le_of_ble_eq_true rfl) (rcv_own hW.sc.r) (Nat.le_refl _) (Nat.le_refl _) ?_
  refine c_hasPlace hW.sc ?_
  rw [e4]
  simp only [r_if_ne (tgt := 14) dX9_guess_8 rfl, r_bipush dX9_guess_11 kbm2, r_iret dX9_guess_13 (Nat.zero_le _) (Nat.zero_le _), r_al0 dX9_guess_14, r_getf dX9_guess_15 F9_60, r_al0 dX9_guess_18, r_getf dX9_guess_19 F9_10, r_al0 dX9_guess_22, r_getf dX9_guess_23 F9_22, List.cons_append, List.nil_append, Nat.reduceAdd, Option.toList, g9_0, g9_2, g9_8, z0, hW.r, rd_own hW.r, hW.r, rd_own hW.r, th_0, th_1, th_2, th_3, th_4, th_5, th_6, th_7, th_8, th_9]
  refine ⟨fun hk => ?_, fun hk => h0 (Classical.not_not.mp hk)⟩
  obtain ⟨i, hi, rfl⟩ := ix (by omega) (Classical.not_not.mp hk)
  refine r_iv3 dX9_guess_26 M9_275 Y82 O82 (Nat.le_of_ble_eq_true rfl) (rcv_own hW.si.r) (Nat.le_refl _) (Nat.le_refl _) ?_
  refine c_look hW hz hc (fun hm' V' AA' hW' k1 k2 k3 k4 => ?_)
  have hp := hW'.si
  simp only [r_al0 dX9_guess_29, r_getf dX9_guess_30 F9_22, r_al0 dX9_guess_33, r_getf dX9_guess_34 F9_60, r_getf dX9_guess_37 F9_293, r_il1 dX9_guess_40, r_iald dX9_guess_41, List.cons_append, List.nil_append, Nat.reduceAdd, Option.toList, aI_ok, g6_3, g9_2, g9_8, z0, hW'.r, rd_own hW'.r, hW'.r, rd_own hW'.r, th_0, th_1, th_2, th_3, th_4, th_5, th_6, th_7, th_8, th_9, hp.r, rd_own hp.r, hp.r3, rd_own hp.r3, nI_clamp (show i < 2 ^ 31 by omega)]
  refine ⟨vp_in_nI (by omega) (by omega), ?_⟩
  refine r_iv2 dX9_guess_42 M9_304 Y78 O78 (Nat.le_of_ble_eq_true rfl) (rcv_own hW'.sc.r) (Nat.le_refl _) (Nat.le_refl _) ?_
  refine c_heaviestOf hW'.sc (by rw [(k1 2 (by decide)).1]; exact e3) l3 ?_
  simp only [r_iret dX9_guess_45 (Nat.zero_le _) (Nat.zero_le _), List.cons_append, List.nil_append, Nat.reduceAdd, Option.toList, z0]
  rw [(k1 2 (by decide)).2]
  exact hQ i hi rfl hm' V' AA' hW' k1 k2 k3 (k4.wide (by omega))
theorem c_reads {q : Int32} (hW : TW hm t pa pb qa qb V AA R) (hz : SZ V AA n w h nl np nw nr) (hc : V 8 0 = 0 → siR (V 0) (AA 0) (AA 2) n nl np nw nr (AA 8)) (h10 : ∀ S, siR (V 0) (AA 0) (AA 2) n nl np nw nr S → ∀ q, q < np → ∀ i, 10 ≤ i → i < 32 → bt (S 3 q) i = false)
    (h0 : q < -1 → Q (some (.int (-3))) hm hs) (h1 : q = -1 → Q (some (.int (nI np))) hm hs) (h2 : ¬ q < -1 → ¬ q = -1 → ¬ q < nI np → Q (some (.int (-1))) hm hs)
    (hQ : ∀ i, i < np → q = nI i → ∀ hm' V' AA', TW hm' t pa pb qa qb V' AA' R → KX 8 V V' AA AA' → V' 8 0 = 0 → siR (V 0) (AA 0) (AA 2) n nl np nw nr (AA' 8) → sm t (t + 70) hm hm' → Q (some (.int (if AA' 8 3 i = 0 then 63 else if pcnt (AA' 8 3 i) = 1 then AA 2 4 (ntz (AA' 8 3 i)).toNatClampNeg else 46))) hm' hs) : CC X EV (d + 5) 129 [.ref t, .int q] hm hs Q := by
  obtain ⟨-, -, -, ⟨e3, l3⟩, ⟨e4, l4⟩, -⟩ := id hz
  have hp := hW.sc
  refine c_of (ls2 := [.ref t, .int q]) Y129 (Nat.le_of_ble_eq_true rfl) rfl I129 ?_
  simp only [r_il1 dX9_reads_0, r_iconst dX9_reads_1 kim1, r_ic_ge (tgt := 8) dX9_reads_2 rfl, r_bipush dX9_reads_5 kbm3, r_iret dX9_reads_7 (Nat.zero_le _) (Nat.zero_le _), r_il1 dX9_reads_8, r_iconst dX9_reads_9 kim1, r_ic_ne (tgt := 21) dX9_reads_10 rfl, r_al0 dX9_reads_13, r_getf dX9_reads_14 F9_22, r_getf dX9_reads_17 F9_321, r_iret dX9_reads_20 (Nat.zero_le _) (Nat.zero_le _), r_il1 dX9_reads_21, r_al0 dX9_reads_22, r_getf dX9_reads_23 F9_22, r_getf dX9_reads_26 F9_321, r_ic_lt (tgt := 34) dX9_reads_29 rfl, r_iconst dX9_reads_32 kim1, r_iret dX9_reads_33 (Nat.zero_le _) (Nat.zero_le _), r_al0 dX9_reads_34, r_getf dX9_reads_35 F9_60, r_al0 dX9_reads_38, r_getf dX9_reads_39 F9_10, r_al0 dX9_reads_42, r_getf dX9_reads_43 F9_22, List.cons_append, List.nil_append, Nat.reduceAdd, Option.toList, g5_1, g9_0, g9_2, g9_8, z0, hW.r, rd_own hW.r, hW.r, rd_own hW.r, th_0, th_1, th_2, th_3, th_4, th_5, th_6, th_7, th_8, th_9, hp.r, rd_own hp.r, hp.r, rd_own hp.r, e4]
  refine ⟨fun k1 => ⟨fun k2 => ⟨fun k3 => ?_, fun k3 => h2 (by grind) k2 k3⟩, fun k2 => h1 (Classical.not_not.mp k2)⟩, fun k1 => h0 (by grind)⟩
  obtain ⟨i, hi, rfl⟩ := ix (k := q) (n := np) (by omega) ⟨by grind, k3⟩
  refine r_iv3 dX9_reads_46 M9_275 Y82 O82 (Nat.le_of_ble_eq_true rfl) (rcv_own hW.si.r) (Nat.le_refl _) (Nat.le_refl _) ?_
  refine c_look hW hz hc (fun hm' V' AA' hW' k1 k2 k3 k4 => ?_)
  have hp := hW'.si
  simp only [r_al0 dX9_reads_49, r_getf dX9_reads_50 F9_22, r_al0 dX9_reads_53, r_getf dX9_reads_54 F9_60, r_getf dX9_reads_57 F9_293, r_il1 dX9_reads_60, r_iald dX9_reads_61, List.cons_append, List.nil_append, Nat.reduceAdd, Option.toList, aI_ok, g6_3, g9_2, g9_8, z0, hW'.r, rd_own hW'.r, hW'.r, rd_own hW'.r, th_0, th_1, th_2, th_3, th_4, th_5, th_6, th_7, th_8, th_9, hp.r, rd_own hp.r, hp.r3, rd_own hp.r3, nI_clamp (show i < 2 ^ 31 by omega)]
  refine ⟨vp_in_nI (by omega) (by omega), ?_⟩
  refine r_iv2 dX9_reads_62 M9_324 Y80 O80 (Nat.le_of_ble_eq_true rfl) (rcv_own hW'.sc.r) (Nat.le_refl _) (Nat.le_refl _) ?_
  refine c_signFor hW'.sc (h10 _ k3 i hi) ?_
  simp only [r_iret dX9_reads_65 (Nat.zero_le _) (Nat.zero_le _), List.cons_append, List.nil_append, Nat.reduceAdd, Option.toList, z0]
  rw [(k1 2 (by decide)).2]
  exact hQ i hi rfl hm' V' AA' hW' k1 k2 k3 (k4.wide (by omega))
theorem c_letter {k wh : Int32} (hW : TW hm t pa pb qa qb V AA R) (hz : SZ V AA n w h nl np nw nr) (hc : V 8 0 = 0 → siR (V 0) (AA 0) (AA 2) n nl np nw nr (AA 8))
    (h0 : ¬ (0 ≤ k ∧ k < nI nl) → Q (some (.int (-2))) hm hs) (h1 : ∀ i, i < nl → k = nI i → wh ≠ 3 → Q (some (.int (if wh = 0 then AA 2 4 i - 97 + 1 else if wh = 1 then AA 2 5 i else if wh = 2 then AA 2 6 i else -2))) hm hs)
    (hQ : ∀ i, i < nl → k = nI i → wh = 3 → ∀ hm' V' AA', TW hm' t pa pb qa qb V' AA' R → KX 8 V V' AA AA' → V' 8 0 = 0 → siR (V 0) (AA 0) (AA 2) n nl np nw nr (AA' 8) → sm t (t + 70) hm hm' → Q (some (.int (nI (pfv (AA' 8 2) i np)))) hm' hs) : CC X EV (d + 5) 130 [.ref t, .int k, .int wh] hm hs Q := by
  obtain ⟨-, -, -, ⟨e3, l3⟩, ⟨e4, l4⟩, -⟩ := id hz
  have hp := hW.sc
  refine c_of (ls2 := [.ref t, .int k, .int wh]) Y130 (Nat.le_of_ble_eq_true rfl) rfl I130 ?_
  simp only [r_al0 dX9_letter_0, r_getf dX9_letter_1 F9_22, r_il1 dX9_letter_4, List.cons_append, List.nil_append, Nat.reduceAdd, Option.toList, g9_2, z0, hW.r, rd_own hW.r, hW.r, rd_own hW.r, th_0, th_1, th_2, th_3, th_4, th_5, th_6, th_7, th_8, th_9]
  refine r_iv2 dX9_letter_5 M9_153 Y64 O64 (Nat.le_of_ble_eq_true rfl) (rcv_own hp.r) (Nat.le_refl _) (Nat.le_refl _) ?_
  refine c_hasLetter hp ?_
  rw [e3]
  simp only [r_if_ne (tgt := 14) dX9_letter_8 rfl, r_bipush dX9_letter_11 kbm2, r_iret dX9_letter_13 (Nat.zero_le _) (Nat.zero_le _), r_il2 dX9_letter_14, List.cons_append, List.nil_append, Nat.reduceAdd, Option.toList, z0]
  refine ⟨fun hk => ?_, fun hk => h0 (Classical.not_not.mp hk)⟩
  obtain ⟨i, hi, rfl⟩ := ix (by omega) (Classical.not_not.mp hk)
  have hin := vp_in_nI (show i < 10 by omega) (by omega)
  have h1 := h1 i hi rfl
  rcases sw_case (n := 4) wh (by omega) with hsw | ⟨m, hm', rfl⟩
  · rw [r_tsOut (tgt := 110) dX9_letter_15 hsw rfl]
    simp only [r_bipush dX9_letter_110 kbm2, r_iret dX9_letter_112 (Nat.zero_le _) (Nat.zero_le _), List.cons_append, List.nil_append, Nat.reduceAdd, Option.toList, z0]
    have : ∀ m, m < 4 → wh ≠ nI m := fun m hm' e => by rw [e, nI_toInt (by omega)] at hsw; omega
    have h1 := h1 (this 3 (by omega))
    rw [if_neg (show wh ≠ 0 from this 0 (by omega)), if_neg (show wh ≠ 1 from this 1 (by omega)), if_neg (show wh ≠ 2 from this 2 (by omega))] at h1
    exact h1
  · match m, hm' with
    | 0, _ =>
      rw [r_tsIn (tgt := 44) (off := 29) dX9_letter_15 (by decide) (by decide) rfl rfl]
      simp only [r_al0 dX9_letter_44, r_getf dX9_letter_45 F9_22, r_getf dX9_letter_48 F9_327, r_il1 dX9_letter_51, r_iald dX9_letter_52, r_bipush dX9_letter_53 kb97, r_isub dX9_letter_55, r_iconst dX9_letter_56 ki1, r_iadd dX9_letter_57, r_iret dX9_letter_58 (Nat.zero_le _) (Nat.zero_le _), List.cons_append, List.nil_append, Nat.reduceAdd, Option.toList, aI_ok, g5_4, g9_2, z0, hW.r, rd_own hW.r, hW.r, rd_own hW.r, th_0, th_1, th_2, th_3, th_4, th_5, th_6, th_7, th_8, th_9, hp.r, rd_own hp.r, hp.r4, rd_own hp.r4, nI_clamp (show i < 2 ^ 31 by omega)]
      exact ⟨hin, h1 (by decide)⟩
    | 1, _ =>
      rw [r_tsIn (tgt := 59) (off := 44) dX9_letter_15 (by decide) (by decide) rfl rfl]
      simp only [r_al0 dX9_letter_59, r_getf dX9_letter_60 F9_22, r_getf dX9_letter_63 F9_330, r_il1 dX9_letter_66, r_iald dX9_letter_67, r_iret dX9_letter_68 (Nat.zero_le _) (Nat.zero_le _), List.cons_append, List.nil_append, Nat.reduceAdd, Option.toList, aI_ok, g5_5, g9_2, z0, hW.r, rd_own hW.r, hW.r, rd_own hW.r, th_0, th_1, th_2, th_3, th_4, th_5, th_6, th_7, th_8, th_9, hp.r, rd_own hp.r, hp.r5, rd_own hp.r5, nI_clamp (show i < 2 ^ 31 by omega)]
      exact ⟨hin, h1 (by decide)⟩
    | 2, _ =>
      rw [r_tsIn (tgt := 69) (off := 54) dX9_letter_15 (by decide) (by decide) rfl rfl]
      simp only [r_al0 dX9_letter_69, r_getf dX9_letter_70 F9_22, r_getf dX9_letter_73 F9_156, r_il1 dX9_letter_76, r_iald dX9_letter_77, r_iret dX9_letter_78 (Nat.zero_le _) (Nat.zero_le _), List.cons_append, List.nil_append, Nat.reduceAdd, Option.toList, aI_ok, g5_6, g9_2, z0, hW.r, rd_own hW.r, hW.r, rd_own hW.r, th_0, th_1, th_2, th_3, th_4, th_5, th_6, th_7, th_8, th_9, hp.r, rd_own hp.r, hp.r6, rd_own hp.r6, nI_clamp (show i < 2 ^ 31 by omega)]
      exact ⟨hin, h1 (by decide)⟩
    | 3, _ =>
      rw [r_tsIn (tgt := 79) (off := 64) dX9_letter_15 (by decide) (by decide) rfl rfl]
      simp only [r_al0 dX9_letter_79, r_getf dX9_letter_80 F9_60, r_al0 dX9_letter_83, r_getf dX9_letter_84 F9_10, r_al0 dX9_letter_87, r_getf dX9_letter_88 F9_22, List.cons_append, List.nil_append, Nat.reduceAdd, Option.toList, g9_0, g9_2, g9_8, z0, hW.r, rd_own hW.r, hW.r, rd_own hW.r, th_0, th_1, th_2, th_3, th_4, th_5, th_6, th_7, th_8, th_9]
      refine r_iv3 dX9_letter_91 M9_275 Y82 O82 (Nat.le_of_ble_eq_true rfl) (rcv_own hW.si.r) (Nat.le_refl _) (Nat.le_refl _) ?_
      refine c_look hW hz hc (fun hm' V' AA' hW' k1 k2 k3 k4 => ?_)
      have hp := hW'.sc
      have e5 : V' 2 1 = nI np := by rw [(k1 2 (by decide)).1]; exact e4
      simp only [r_al0 dX9_letter_94, r_getf dX9_letter_95 F9_60, r_il1 dX9_letter_98, r_al0 dX9_letter_99, r_getf dX9_letter_100 F9_22, r_getf dX9_letter_103 F9_321, List.cons_append, List.nil_append, Nat.reduceAdd, Option.toList, g5_1, g9_2, g9_8, z0, hW'.r, rd_own hW'.r, hW'.r, rd_own hW'.r, th_0, th_1, th_2, th_3, th_4, th_5, th_6, th_7, th_8, th_9, hp.r, rd_own hp.r, hp.r, rd_own hp.r, e5]
      refine r_iv3 dX9_letter_106 M9_333 Y83 O83 (Nat.le_of_ble_eq_true rfl) (rcv_own hW'.si.r) (Nat.le_refl _) (Nat.le_refl _) ?_
      refine c_placesThatFit hW'.si (by omega) l4 ?_
      simp only [r_iret dX9_letter_109 (Nat.zero_le _) (Nat.zero_le _), List.cons_append, List.nil_append, Nat.reduceAdd, Option.toList, z0]
      exact hQ i hi rfl rfl hm' V' AA' hW' k1 k2 k3 (k4.wide (by omega))
theorem c_paired {a b : Int32} (hW : TW hm t pa pb qa qb V AA R) (e2 : V 0 2 = nI n) (l2 : n ≤ 12)
    (h0 : ¬ ((0 ≤ a ∧ a < nI n) ∧ (0 ≤ b ∧ b < nI n) ∧ a ≠ b) → Q (some (.int (-2))) hm hs)
    (hQ : ∀ i j, i < n → j < n → i ≠ j → a = nI i → b = nI j → Q (some (.int (if ¬ AA 0 12 i &&& AA 0 13 j = 0 ∨ ¬ AA 0 12 j &&& AA 0 13 i = 0 then 0 else 1))) hm hs) : CC X EV (d + 3) 141 [.ref t, .int a, .int b] hm hs Q := by
  have hp := hW.pg
  refine c_of (ls2 := [.ref t, .int a, .int b]) Y141 (Nat.le_of_ble_eq_true rfl) rfl I141 ?_
  simp only [r_al0 dX9_paired_0, r_getf dX9_paired_1 F9_10, r_il1 dX9_paired_4, r_il2 dX9_paired_5, List.cons_append, List.nil_append, Nat.reduceAdd, Option.toList, g9_0, z0, hW.r, rd_own hW.r, hW.r, rd_own hW.r, th_0, th_1, th_2, th_3, th_4, th_5, th_6, th_7, th_8, th_9]
  refine r_iv3 dX9_paired_6 M9_216 Y7 O7 (Nat.le_of_ble_eq_true rfl) (rcv_own hp.r) (Nat.le_refl _) (Nat.le_refl _) ?_
  refine c_hasTwo hp ?_
  rw [e2]
  simp only [r_if_ne (tgt := 15) dX9_paired_9 rfl, r_bipush dX9_paired_12 kbm2, r_iret dX9_paired_14 (Nat.zero_le _) (Nat.zero_le _), r_al0 dX9_paired_15, r_getf dX9_paired_16 F9_10, r_il1 dX9_paired_19, r_il2 dX9_paired_20, List.cons_append, List.nil_append, Nat.reduceAdd, Option.toList, g9_0, z0, hW.r, rd_own hW.r, hW.r, rd_own hW.r, th_0, th_1, th_2, th_3, th_4, th_5, th_6, th_7, th_8, th_9]
  refine ⟨fun hk => ?_, fun hk => h0 (Classical.not_not.mp hk)⟩
  obtain ⟨k1, k2, k3⟩ := Classical.not_not.mp hk
  obtain ⟨i, hi, rfl⟩ := ix (by omega) k1
  obtain ⟨j, hj, rfl⟩ := ix (by omega) k2
  have hQ := hQ i j hi hj (fun e => k3 (by rw [e])) rfl rfl
  refine r_iv3 dX9_paired_21 M9_369 Y22 O22 (Nat.le_of_ble_eq_true rfl) (rcv_own hp.r) (Nat.le_refl _) (Nat.le_refl _) ?_
  refine c_hasBetween hp (by omega) (by omega) ?_
  simp only [r_if_eq (tgt := 31) dX9_paired_24 rfl, r_iconst dX9_paired_27 ki0, r_goto (tgt := 32) dX9_paired_28 rfl, r_iconst dX9_paired_31 ki1, r_iret dX9_paired_32 (Nat.zero_le _) (Nat.zero_le _), List.cons_append, List.nil_append, Nat.reduceAdd, Option.toList, z0]
  refine ⟨fun h => by rw [if_neg h] at hQ; exact hQ, fun h => by rw [if_pos (Classical.not_not.mp h)] at hQ; exact hQ⟩
theorem c_words {r k : Int32} (hW : TW hm t pa pb qa qb V AA R) (hz : SZ V AA n w h nl np nw nr) (hc : V 8 0 = 0 → siR (V 0) (AA 0) (AA 2) n nl np nw nr (AA 8))
    (h0 : ¬ (0 ≤ r ∧ r < nI nr) → Q (some (.int (-2))) hm hs) (h1 : (0 ≤ r ∧ r < nI nr) → k < -1 → Q (some (.int (-3))) hm hs)
    (hQ : ∀ i f l, i < nr → r = nI i → ¬ k < -1 → AA 2 12 i = nI f → AA 2 13 i = nI l → f + l ≤ 8 → l ≤ 6 → ∀ hm' V' AA', TW hm' t pa pb qa qb V' AA' R → KX 8 V V' AA AA' → V' 8 0 = 0 → siR (V 0) (AA 0) (AA 2) n nl np nw nr (AA' 8) → sm t (t + 70) hm hm' →
      (∀ j, j < nw → wfP (AA 2) (AA' 8 2) i f l j → nI (wcn (wfP (AA 2) (AA' 8 2) i f l) j) = k → Q (some (.int (nI j))) hm' hs) ∧ ((∀ j, j < nw → wfP (AA 2) (AA' 8 2) i f l j → ¬ nI (wcn (wfP (AA 2) (AA' 8 2) i f l) j) = k) → Q (some (.int (if k = -1 then nI (wcn (wfP (AA 2) (AA' 8 2) i f l) nw) else -1))) hm' hs)) : CC X EV (d + 5) 127 [.ref t, .int r, .int k] hm hs Q := by
  obtain ⟨-, -, -, -, ⟨e4, l4⟩, ⟨e5, l5⟩, ⟨e6, l6⟩, hR, hWd, -⟩ := id hz
  have hp := hW.sc
  refine c_of (ls2 := [.ref t, .int r, .int k, .null, .null]) Y127 (Nat.le_of_ble_eq_true rfl) rfl I127 ?_
  simp only [r_al0 dX9_words_0, r_getf dX9_words_1 F9_22, r_il1 dX9_words_4, List.cons_append, List.nil_append, Nat.reduceAdd, Option.toList, g9_2, z0, hW.r, rd_own hW.r, hW.r, rd_own hW.r, th_0, th_1, th_2, th_3, th_4, th_5, th_6, th_7, th_8, th_9]
  refine r_iv2 dX9_words_5 M9_307 Y67 O67 (Nat.le_of_ble_eq_true rfl) (rcv_own hp.r) (Nat.le_refl _) (Nat.le_refl _) ?_
  refine c_hasRun hp ?_
  rw [e6]
  simp only [r_if_ne (tgt := 14) dX9_words_8 rfl, r_bipush dX9_words_11 kbm2, r_iret dX9_words_13 (Nat.zero_le _) (Nat.zero_le _), r_il2 dX9_words_14, r_iconst dX9_words_15 kim1, r_ic_ge (tgt := 22) dX9_words_16 rfl, r_bipush dX9_words_19 kbm3, r_iret dX9_words_21 (Nat.zero_le _) (Nat.zero_le _), r_al0 dX9_words_22, r_getf dX9_words_23 F9_60, r_al0 dX9_words_26, r_getf dX9_words_27 F9_10, r_al0 dX9_words_30, r_getf dX9_words_31 F9_22, List.cons_append, List.nil_append, Nat.reduceAdd, Option.toList, g9_0, g9_2, g9_8, z0, hW.r, rd_own hW.r, hW.r, rd_own hW.r, th_0, th_1, th_2, th_3, th_4, th_5, th_6, th_7, th_8, th_9]
  refine ⟨fun hk => ⟨fun hk2 => ?_, fun hk2 => h1 (Classical.not_not.mp hk) (by grind)⟩, fun hk => h0 (Classical.not_not.mp hk)⟩
  obtain ⟨i, hi, rfl⟩ := ix (by omega) (Classical.not_not.mp hk)
  obtain ⟨f, l, f1, f2, f3, f4⟩ := hR i hi
  refine r_iv3 dX9_words_34 M9_275 Y82 O82 (Nat.le_of_ble_eq_true rfl) (rcv_own hW.si.r) (Nat.le_refl _) (Nat.le_refl _) ?_
  refine c_look hW hz hc (fun hm' V' AA' hW' k1 k2 k3 k4 => ?_)
  obtain ⟨g1, g2⟩ := hQ i f l hi rfl (by grind) f1 f2 f3 f4 hm' V' AA' hW' k1 k2 k3 (k4.wide (by omega))
  have hp' := hW'.sc
  have e7 : V' 2 2 = nI nw := by rw [(k1 2 (by decide)).1]; exact e5
  have e8 : AA' 2 = AA 2 := (k1 2 (by decide)).2
  have hS' : scW (V' 2) (AA' 2) np nw nr := (hz.s k1 (by decide) (by decide)).2.2.2.2
  rw [← e8] at f1 f2 g1 g2
  simp only [r_iconst dX9_words_37 ki0, r_is3 dX9_words_38, r_iconst dX9_words_39 ki0, r_is4 dX9_words_40, List.cons_append, List.nil_append, Nat.reduceAdd, Option.toList, cat_f, cat_i, cat_n, cat_r, eq_self, true_and, z0]
  suffices H : ∀ j, j ≤ nw → (∀ m, m < j → wfP (AA' 2) (AA' 8 2) i f l m → ¬ nI (wcn (wfP (AA' 2) (AA' 8 2) i f l) m) = k) → E1 X EV (d + 4) 9 0 0 (some .int) false cX9_words Q 42 [.ref t, .int (nI i), .int k, .int (nI (wcn (wfP (AA' 2) (AA' 8 2) i f l) j)), .int (nI j)] [] 0 0 hm' hs from H 0 (by omega) (fun m hm => absurd hm (Nat.not_lt_zero m))
  refine up_loop nw _ ?_ ?_
  · intro hno
    simp only [r_il4 dX9_words_42, r_al0 dX9_words_44, r_getf dX9_words_45 F9_22, r_getf dX9_words_48 F9_310, r_ic_ge (tgt := 91) dX9_words_51 rfl, r_al0 dX9_words_54, r_getf dX9_words_55 F9_22, r_il4 dX9_words_58, r_il1 dX9_words_60, r_al0 dX9_words_61, r_getf dX9_words_62 F9_60, r_getf dX9_words_65 F9_290, r_il2 dX9_words_91, r_iconst dX9_words_92 kim1, r_ic_ne (tgt := 100) dX9_words_93 rfl, r_il3 dX9_words_96, r_goto (tgt := 101) dX9_words_97 rfl, r_iconst dX9_words_100 kim1, r_iret dX9_words_101 (Nat.zero_le _) (Nat.zero_le _), List.cons_append, List.nil_append, Nat.reduceAdd, Option.toList, g5_2, g6_2, g9_2, g9_8, z0, hW'.r, rd_own hW'.r, hW'.r, rd_own hW'.r, th_0, th_1, th_2, th_3, th_4, th_5, th_6, th_7, th_8, th_9, hp'.r, rd_own hp'.r, hp'.r, rd_own hp'.r, e7]
    refine ⟨fun _ => ?_, fun h => absurd (Int32.le_refl _) h⟩
    have := g2 hno
    refine ⟨fun h => by rw [if_neg h] at this; exact this, fun h => by rw [if_pos (Classical.not_not.mp h)] at this; exact this⟩
  · intro j hj ih hno
    have hl := wcn_le (wfP (AA' 2) (AA' 8 2) i f l) j
    have hpS := hW'.si
    simp only [r_il4 dX9_words_42, r_al0 dX9_words_44, r_getf dX9_words_45 F9_22, r_getf dX9_words_48 F9_310, r_ic_ge (tgt := 91) dX9_words_51 rfl, r_al0 dX9_words_54, r_getf dX9_words_55 F9_22, r_il4 dX9_words_58, r_il1 dX9_words_60, r_al0 dX9_words_61, r_getf dX9_words_62 F9_60, r_getf dX9_words_65 F9_290, r_il2 dX9_words_91, r_iconst dX9_words_92 kim1, r_ic_ne (tgt := 100) dX9_words_93 rfl, r_il3 dX9_words_96, r_goto (tgt := 101) dX9_words_97 rfl, r_iconst dX9_words_100 kim1, r_iret dX9_words_101 (Nat.zero_le _) (Nat.zero_le _), List.cons_append, List.nil_append, Nat.reduceAdd, Option.toList, g5_2, g6_2, g9_2, g9_8, z0, hW'.r, rd_own hW'.r, hW'.r, rd_own hW'.r, th_0, th_1, th_2, th_3, th_4, th_5, th_6, th_7, th_8, th_9, hp'.r, rd_own hp'.r, hp'.r, rd_own hp'.r, hpS.r, rd_own hpS.r, hpS.r, rd_own hpS.r, e7]
    simp (disch := omega) only [E2, nI_1, nI_add, nI_leI, nI_ltI, nI_eq, nI_clamp]
    refine ⟨fun h => absurd h (by omega), fun _ => ?_⟩
    refine r_iv4 dX9_words_68 M9_313 Y75 O75 (Nat.le_of_ble_eq_true rfl) (rcv_own hp'.r) (Nat.le_refl _) (Nat.le_refl _) ?_
    refine c_wordFits hp' hW'.si.r2 (by omega) (by omega) f1 f2 f3 f4 (scW_lt hS' hj f2 f4) (c := wfP (AA' 2) (AA' 8 2) i f l j) Iff.rfl ?_
    rw [wcn] at ih
    simp only [r_if_eq (tgt := 85) dX9_words_71 rfl, r_il3 dX9_words_74, r_il2 dX9_words_75, r_ic_ne (tgt := 82) dX9_words_76 rfl, r_il4 dX9_words_79, r_iret dX9_words_81 (Nat.zero_le _) (Nat.zero_le _), r_ii3 dX9_words_82 kn1, r_ii4 dX9_words_85 kn1, r_gotoB (tgt := 42) dX9_words_88 rfl, List.cons_append, List.nil_append, Nat.reduceAdd, Option.toList, cat_f, cat_i, cat_n, cat_r, eq_self, true_and, z0]
    refine ⟨fun h => ?_, fun h => ⟨fun h5 => ?_, fun h5 => ?_⟩⟩
    · simp (disch := omega) only [E2, nI_1, nI_add, nI_leI, nI_ltI, nI_eq, nI_clamp]
      rw [if_neg h] at ih
      exact ih (fun m hm => by
        rcases Nat.lt_or_ge m j with h' | h'
        · exact hno m h'
        · rw [show m = j by omega]; exact fun z => absurd z h)
    · simp (disch := omega) only [E2, nI_1, nI_add, nI_leI, nI_ltI, nI_eq, nI_clamp]
      rw [if_pos (Classical.not_not.mp h)] at ih
      exact ih (fun m hm => by
        rcases Nat.lt_or_ge m j with h' | h'
        · exact hno m h'
        · rw [show m = j by omega]; exact fun _ => h5)
    · exact g1 j hj (Classical.not_not.mp h) (Classical.not_not.mp h5)
end Q3
