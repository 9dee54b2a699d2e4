def tb1 (bl : Nat → Int32) (n : Nat) (T : Nat → Int32) (all : Int32) : Prop := ∃ T0 : Nat → Int32, T0 0 = 1 ∧ (∀ s, 1 ≤ s → s < 2 ^ n → T0 s = 0) ∧ T = pal bl n (2 ^ n - 1) T0 ∧ all = T (2 ^ n - 1)
def tb2 (bl : Nat → Int32) (n : Nat) (E : Nat → Int32) (R : Nat → Int64) : Prop := ∃ (T : Nat → Int32) (all : Int32) (F F0 E0 : Nat → Int32) (R0 : Nat → Int64), tb1 bl n T all ∧ F0 (2 ^ n - 1) = 1 ∧ (∀ q, q < 144 → E0 q = 0) ∧ (∀ q, q < 12 → R0 q = 0) ∧ (F, E, R) = dfr bl T n (2 ^ n - 1) (F0, E0, R0)
section Q2
variable {X : HM} {EV : Nat → Value} {d : Nat} {hm : HM} {hs : Nat} {Q : QT} {t pa pb qa qb : Nat} {V : Nat → Nat → Int32} {AA : Nat → Nat → Nat → Int32} {R : Nat → Int64} {B n w h nl np nw nr : Nat}
theorem c_taly (hW : TW hm t pa pb qa qb V AA R) (e2 : V 0 2 = nI n) (l2 : n ≤ 12) (hc : V 7 0 = 0 → tb1 (AA 0 12) n (AA 7 3) (V 7 2))
    (hQ : ∀ hm' V' AA', TW hm' t pa pb qa qb V' AA' R → KX 7 V V' AA AA' → V' 7 0 = 0 → V' 7 1 = V 7 1 → AA' 7 5 = AA 7 5 → tb1 (AA 0 12) n (AA' 7 3) (V' 7 2) → sm (t + 52) (t + 57) hm hm' → Q none hm' hs) : CC X EV (d + 3) 85 [.ref (t + 52), .ref pa] hm hs Q := by
  have had := hW.ad
  unfold adO at had
  refine c_taRefresh hW.ta hW.pg (by omega) e2 l2 (fun h0 => ?_) (fun h0 hm' A' T0 hP h1 h2 h3 h4 h5 => ?_)
  · exact hQ hm V AA hW (fun j _ => ⟨rfl, rfl⟩) h0 rfl rfl (hc h0) sm.rf
  · refine hQ hm' _ _ (hW.s_ta hP h5) (fun j hj => ⟨vu_ne hj, vu_ne hj⟩) ?_ ?_ ?_ ?_ h5
    · rw [vu_eq, pk_us]
    · rw [vu_eq, pk_un (by decide), pk_un (by decide)]
    · rw [vu_eq]; exact h1 5 (by decide)
    · rw [vu_eq, vu_eq, pk_un (by decide), pk_us]
      exact ⟨T0, h2, h3, h4, by rw [h4]⟩
theorem c_taly2 (hW : TW hm t pa pb qa qb V AA R) (e2 : V 0 2 = nI n) (l2 : n ≤ 12) (hc : V 7 0 = 0 → tb1 (AA 0 12) n (AA 7 3) (V 7 2)) (hc2 : V 7 1 = 0 → tb2 (AA 0 12) n (AA 7 5) R)
    (hQ : ∀ hm' V' AA' R', TW hm' t pa pb qa qb V' AA' R' → KX 7 V V' AA AA' → V' 7 0 = 0 → V' 7 1 = 0 → tb1 (AA 0 12) n (AA' 7 3) (V' 7 2) → tb2 (AA 0 12) n (AA' 7 5) R' → sm (t + 52) (t + 57) hm hm' → Q none hm' hs) : CC X EV (d + 4) 89 [.ref (t + 52), .ref pa] hm hs Q := by
  have had := hW.ad
  unfold adO at had
  have K : ∀ (u' : Nat → Int32) (A' : Nat → Nat → Int32), (V 7 0 = 0 → u' 2 = V 7 2 ∧ A' 3 = AA 7 3) → (¬ V 7 0 = 0 → ∃ T0 : Nat → Int32, T0 0 = 1 ∧ (∀ s, 1 ≤ s → s < 2 ^ n → T0 s = 0) ∧ A' 3 = pal (AA 0 12) n (2 ^ n - 1) T0 ∧ u' 2 = A' 3 (2 ^ n - 1)) → tb1 (AA 0 12) n (A' 3) (u' 2) := by
    intro u' A' h1 h2
    by_cases h0 : V 7 0 = 0
    · rw [(h1 h0).1, (h1 h0).2]; exact hc h0
    · exact h2 h0
  refine c_refreshDetail (all := 0) hW.ta hW.pg (by omega) e2 l2 (fun hm' u' A' hP h1 h2 h3 h4 h5 h6 h7 => ?_) (fun hm' u' A' R' hP h1 h2 h3 h4 h5 h6 h7 => ?_)
  · refine hQ hm' _ _ _ (hW.s_ta hP h6) (fun j hj => ⟨vu_ne hj, vu_ne hj⟩) ?_ ?_ ?_ ?_ h6
    · rw [vu_eq]; exact h3
    · rw [vu_eq, h2]; exact h7
    · rw [vu_eq, vu_eq]; exact K u' A' h4 h5
    · rw [vu_eq, h1 5 (by decide)]; exact hc2 h7
  · refine hQ hm' _ _ _ (hW.s_ta hP h6) (fun j hj => ⟨vu_ne hj, vu_ne hj⟩) ?_ ?_ ?_ ?_ h6
    · rw [vu_eq]; exact h2
    · rw [vu_eq]; exact h1
    · rw [vu_eq, vu_eq]; exact K u' A' h3 h4
    · rw [vu_eq]
      obtain ⟨F0, E0, R0, a1, a2, a3, a4⟩ := h5
      exact ⟨A' 3, u' 2, A' 4, F0, E0, R0, K u' A' h3 h4, a1, a2, a3, a4⟩
theorem c_crossing {a b : Int32} (hW : TW hm t pa pb qa qb V AA R) (hX : XT X EV B) (hl : lowN B hm) (hz : SZ V AA n w h nl np nw nr) (hdl : ∀ i, i < n → ∃ c l, c < 4 ∧ l ≤ 9 ∧ AA 0 8 i = nI c ∧ AA 0 9 i = nI l)
    (h0 : ¬ ((0 ≤ a ∧ a < nI n) ∧ (0 ≤ b ∧ b < nI n) ∧ a ≠ b) → Q (some (.int (-2))) hm hs)
    (h1 : ∀ i j c l, i < n → j < n → i ≠ j → a = nI i → b = nI j → c < 4 → l ≤ 9 → AA 0 8 i = nI c → AA 0 9 i = nI l → Q (some (.int (fstv (fun k => bt (sAt (V 0) (AA 0) (AA 0 6 i + mstX (nI c) * nI k) (AA 0 7 i + mstY (nI c) * nI k)) j = true) (fun k => 100 * (AA 0 7 i + mstY (nI c) * nI k) + (AA 0 6 i + mstX (nI c) * nI k)) l))) hm hs) : CC X EV (d + 4) 113 [.ref t, .int a, .int b] hm hs Q := by
  obtain ⟨⟨e0, l0⟩, ⟨e1, l1⟩, ⟨e2, l2⟩, ⟨e3, l3⟩, hS⟩ := hz
  have hp := hW.pg
  refine c_of (ls2 := [.ref t, .int a, .int b]) Y113 (Nat.le_of_ble_eq_true rfl) rfl I113 ?_
  simp only [r_al0 dX9_crossing_0, r_getf dX9_crossing_1 F9_10, r_il1 dX9_crossing_4, r_il2 dX9_crossing_5, List.cons_append, List.nil_append, Nat.reduceAdd, Option.toList, g9_0, z0, hW.r, rd_own hW.r, hW.r, rd_own hW.r, th_0, th_1, th_2, th_3, th_4, th_5, th_6, th_7, th_8, th_9]
  refine r_iv3 dX9_crossing_6 M9_216 Y7 O7 (Nat.le_of_ble_eq_true rfl) (rcv_own hp.r) (Nat.le_refl _) (Nat.le_refl _) ?_
  refine c_hasTwo hp ?_
  rw [e2]
  simp only [r_if_ne (tgt := 15) dX9_crossing_9 rfl, r_bipush dX9_crossing_12 kbm2, r_iret dX9_crossing_14 (Nat.zero_le _) (Nat.zero_le _), r_al0 dX9_crossing_15, r_getf dX9_crossing_16 F9_10, r_il1 dX9_crossing_19, r_il2 dX9_crossing_20, List.cons_append, List.nil_append, Nat.reduceAdd, Option.toList, g9_0, z0, hW.r, rd_own hW.r, hW.r, rd_own hW.r, th_0, th_1, th_2, th_3, th_4, th_5, th_6, th_7, th_8, th_9]
  refine ⟨fun hk => ?_, fun hk => h0 (Classical.not_not.mp hk)⟩
  obtain ⟨k1, k2, k3⟩ := Classical.not_not.mp hk
  obtain ⟨i, hi, rfl⟩ := ix (by omega) k1
  obtain ⟨j, hj, rfl⟩ := ix (by omega) k2
  obtain ⟨c, l, c1, c2, c3, c4⟩ := hdl i hi
  refine r_iv3 dX9_crossing_21 M9_219 Y12 O12 (Nat.le_of_ble_eq_true rfl) (rcv_own hp.r) (Nat.le_refl _) (Nat.le_refl _) ?_
  refine c_firstCommonCell hp hX hl e0 e1 l0 l1 (by omega) (by omega) c1 c3 c4 c2 ?_
  simp only [r_iret dX9_crossing_24 (Nat.zero_le _) (Nat.zero_le _), List.cons_append, List.nil_append, Nat.reduceAdd, Option.toList, z0]
  exact h1 i j c l hi hj (fun e => k3 (by rw [e])) rfl rfl c1 c2 c3 c4
theorem c_ring {k : Int32} {z : Nat} (hW : TW hm t pa pb qa qb V AA R) (hz : V 5 0 = nI z) (hz12 : z ≤ 12)
    (hQ : Q (some (.int (if k < 0 then -3 else if k < nI z then AA 5 1 k.toNatClampNeg else -1))) hm hs) : CC X EV (d + 1) 114 [.ref t, .int k] hm hs Q := by
  have hr := hW.rg
  refine c_of (ls2 := [.ref t, .int k]) Y114 (Nat.le_of_ble_eq_true rfl) rfl I114 ?_
  simp only [r_il1 dX9_ring_0, r_if_ge (tgt := 7) dX9_ring_1 rfl, r_bipush dX9_ring_4 kbm3, r_iret dX9_ring_6 (Nat.zero_le _) (Nat.zero_le _), r_il1 dX9_ring_7, r_al0 dX9_ring_8, r_getf dX9_ring_9 F9_39, r_getf dX9_ring_12 F9_223, r_ic_ge (tgt := 30) dX9_ring_15 rfl, r_al0 dX9_ring_18, r_getf dX9_ring_19 F9_39, r_getf dX9_ring_22 F9_224, r_il1 dX9_ring_25, r_iald dX9_ring_26, r_goto (tgt := 31) dX9_ring_27 rfl, r_iconst dX9_ring_30 kim1, r_iret dX9_ring_31 (Nat.zero_le _) (Nat.zero_le _), List.cons_append, List.nil_append, Nat.reduceAdd, Option.toList, aI_ok, g3_0, g3_1, g9_5, z0, hW.r, rd_own hW.r, hW.r, rd_own hW.r, th_0, th_1, th_2, th_3, th_4, th_5, th_6, th_7, th_8, th_9, hr.r, rd_own hr.r, hr.r1, rd_own hr.r1, hz]
  refine ⟨fun h => ⟨fun h2 => ?_, fun h2 => ?_⟩, fun h => ?_⟩
  · rw [if_neg (by grind), if_neg (by grind)] at hQ; exact hQ
  · rw [if_neg (by grind), if_pos (by grind)] at hQ
    obtain ⟨i, hi, rfl⟩ := ix (k := k) (n := z) (by omega) ⟨by grind, by grind⟩
    exact ⟨vp_in_nI (by omega) (by omega), hQ⟩
  · rw [if_pos (by grind)] at hQ; exact hQ
theorem c_order {k : Int32} (hW : TW hm t pa pb qa qb V AA R) (e2 : V 0 2 = nI n) (l2 : n ≤ 12)
    (h0 : k < 0 → Q (some (.int (-3))) hm hs) (h1 : ¬ k < 0 → ¬ k < nI n → Q (some (.int (-1))) hm hs)
    (h2 : ∀ i, i < n → k = nI i → Q (some (.int (ntz (rdy (AA 0 12) (ordv (AA 0 12) n i) n)))) hm hs) : CC X EV (d + 3) 115 [.ref t, .int k] hm hs Q := by
  have hp := hW.pg
  refine c_of (ls2 := [.ref t, .int k]) Y115 (Nat.le_of_ble_eq_true rfl) rfl I115 ?_
  simp only [r_il1 dX9_order_0, r_if_ge (tgt := 7) dX9_order_1 rfl, r_bipush dX9_order_4 kbm3, r_iret dX9_order_6 (Nat.zero_le _) (Nat.zero_le _), r_il1 dX9_order_7, r_al0 dX9_order_8, r_getf dX9_order_9 F9_10, r_getf dX9_order_12 F9_227, r_ic_ge (tgt := 29) dX9_order_15 rfl, r_al0 dX9_order_18, r_getf dX9_order_19 F9_10, r_il1 dX9_order_22, r_iconst dX9_order_29 kim1, r_iret dX9_order_30 (Nat.zero_le _) (Nat.zero_le _), List.cons_append, List.nil_append, Nat.reduceAdd, Option.toList, g1_2, g9_0, z0, hW.r, rd_own hW.r, hW.r, rd_own hW.r, th_0, th_1, th_2, th_3, th_4, th_5, th_6, th_7, th_8, th_9, hp.r, rd_own hp.r, hp.r, rd_own hp.r, e2]
  refine ⟨fun h => ⟨fun h3 => h1 (by grind) (by grind), fun h3 => ?_⟩, fun h => h0 (by grind)⟩
  obtain ⟨i, hi, rfl⟩ := ix (k := k) (n := n) (by omega) ⟨by grind, by grind⟩
  refine r_iv2 dX9_order_23 M9_229 Y29 O29 (Nat.le_of_ble_eq_true rfl) (rcv_own hp.r) (Nat.le_refl _) (Nat.le_refl _) ?_
  refine c_strokeInOrder hp e2 l2 (by omega) ?_
  simp only [r_goto (tgt := 30) dX9_order_26 rfl, r_iret dX9_order_30 (Nat.zero_le _) (Nat.zero_le _), List.cons_append, List.nil_append, Nat.reduceAdd, Option.toList, z0]
  exact h2 i hi rfl
theorem c_orders (hW : TW hm t pa pb qa qb V AA R) (e2 : V 0 2 = nI n) (l2 : n ≤ 12) (hc : V 7 0 = 0 → tb1 (AA 0 12) n (AA 7 3) (V 7 2))
    (hQ : ∀ hm' V' AA', TW hm' t pa pb qa qb V' AA' R → KX 7 V V' AA AA' → V' 7 0 = 0 → V' 7 1 = V 7 1 → AA' 7 5 = AA 7 5 → tb1 (AA 0 12) n (AA' 7 3) (V' 7 2) → sm t (t + 70) hm hm' → Q (some (.long (V' 7 2).toInt64)) hm' hs) : CC X EV (d + 4) 116 [.ref t] hm hs Q := by
  refine c_of (ls2 := [.ref t]) Y116 (Nat.le_of_ble_eq_true rfl) rfl I116 ?_
  simp only [r_al0 dX9_orders_0, r_getf dX9_orders_1 F9_53, r_al0 dX9_orders_4, r_getf dX9_orders_5 F9_10, List.cons_append, List.nil_append, Nat.reduceAdd, Option.toList, g9_0, g9_7, z0, hW.r, rd_own hW.r, hW.r, rd_own hW.r, th_0, th_1, th_2, th_3, th_4, th_5, th_6, th_7, th_8, th_9]
  refine r_iv2 dX9_orders_8 M9_232 Y85 O85 (Nat.le_of_ble_eq_true rfl) (rcv_own hW.ta.r) (Nat.le_refl _) (Nat.le_refl _) ?_
  refine c_taly hW e2 l2 hc (fun hm' V' AA' hW' h1 h2 h3 h4 h5 h6 => ?_)
  have hp := hW'.ta
  simp only [r_al0 dX9_orders_11, r_getf dX9_orders_12 F9_53, r_getf dX9_orders_15 F9_236, r_i2l dX9_orders_18, r_lret dX9_orders_19 (Nat.zero_le _) (Nat.zero_le _), List.cons_append, List.nil_append, Nat.reduceAdd, Option.toList, g7_2, g9_7, z0, hW'.r, rd_own hW'.r, hW'.r, rd_own hW'.r, th_0, th_1, th_2, th_3, th_4, th_5, th_6, th_7, th_8, th_9, hp.r, rd_own hp.r, hp.r, rd_own hp.r]
  exact hQ hm' V' AA' hW' h1 h2 h3 h4 h5 (h6.wide (by omega))
theorem c_ways (hW : TW hm t pa pb qa qb V AA R) (e2 : V 0 2 = nI n) (l2 : n ≤ 12) (hc : V 7 0 = 0 → tb1 (AA 0 12) n (AA 7 3) (V 7 2))
    (hQ : ∀ hm' V' AA', TW hm' t pa pb qa qb V' AA' R → KX 7 V V' AA AA' → V' 7 0 = 0 → V' 7 1 = V 7 1 → AA' 7 5 = AA 7 5 → tb1 (AA 0 12) n (AA' 7 3) (V' 7 2) → sm t (t + 70) hm hm' → Q (some (.int (nI (wysv (AA' 7 3) (V 0 4) (V 0 5) (2 ^ n))))) hm' hs) : CC X EV (d + 4) 118 [.ref t] hm hs Q := by
  refine c_of (ls2 := [.ref t]) Y118 (Nat.le_of_ble_eq_true rfl) rfl I118 ?_
  simp only [r_al0 dX9_ways_0, r_getf dX9_ways_1 F9_53, r_al0 dX9_ways_4, r_getf dX9_ways_5 F9_10, List.cons_append, List.nil_append, Nat.reduceAdd, Option.toList, g9_0, g9_7, z0, hW.r, rd_own hW.r, hW.r, rd_own hW.r, th_0, th_1, th_2, th_3, th_4, th_5, th_6, th_7, th_8, th_9]
  refine r_iv2 dX9_ways_8 M9_232 Y85 O85 (Nat.le_of_ble_eq_true rfl) (rcv_own hW.ta.r) (Nat.le_refl _) (Nat.le_refl _) ?_
  refine c_taly hW e2 l2 hc (fun hm' V' AA' hW' h1 h2 h3 h4 h5 h6 => ?_)
  simp only [r_al0 dX9_ways_11, r_getf dX9_ways_12 F9_53, r_al0 dX9_ways_15, r_getf dX9_ways_16 F9_10, List.cons_append, List.nil_append, Nat.reduceAdd, Option.toList, g9_0, g9_7, z0, hW'.r, rd_own hW'.r, hW'.r, rd_own hW'.r, th_0, th_1, th_2, th_3, th_4, th_5, th_6, th_7, th_8, th_9]
  refine r_iv2 dX9_ways_19 M9_247 Y96 O96 (Nat.le_of_ble_eq_true rfl) (rcv_own hW'.ta.r) (Nat.le_refl _) (Nat.le_refl _) ?_
  have e3 := (h1 0 (by decide)).1
  refine c_countWays hW'.ta hW'.pg (by rw [e3]; exact e2) l2 ?_
  simp only [r_iret dX9_ways_22 (Nat.zero_le _) (Nat.zero_le _), List.cons_append, List.nil_append, Nat.reduceAdd, Option.toList, z0]
  rw [e3]
  exact hQ hm' V' AA' hW' h1 h2 h3 h4 h5 (h6.wide (by omega))
theorem c_ahead {a b : Int32} (hW : TW hm t pa pb qa qb V AA R) (e2 : V 0 2 = nI n) (l2 : n ≤ 12) (hc : V 7 0 = 0 → tb1 (AA 0 12) n (AA 7 3) (V 7 2)) (hc2 : V 7 1 = 0 → tb2 (AA 0 12) n (AA 7 5) R)
    (h0 : ¬ ((0 ≤ a ∧ a < nI n) ∧ (0 ≤ b ∧ b < nI n) ∧ a ≠ b) → Q (some (.long (-2))) hm hs)
    (hQ : ∀ i j, i < n → j < n → i ≠ j → a = nI i → b = nI j → ∀ hm' V' AA' R', TW hm' t pa pb qa qb V' AA' R' → KX 7 V V' AA AA' → V' 7 0 = 0 → V' 7 1 = 0 → tb1 (AA 0 12) n (AA' 7 3) (V' 7 2) → tb2 (AA 0 12) n (AA' 7 5) R' → sm t (t + 70) hm hm' → Q (some (.long (AA' 7 5 (i * 12 + j)).toInt64)) hm' hs) : CC X EV (d + 5) 117 [.ref t, .int a, .int b] hm hs Q := by
  have hp := hW.pg
  refine c_of (ls2 := [.ref t, .int a, .int b]) Y117 (Nat.le_of_ble_eq_true rfl) rfl I117 ?_
  simp only [r_al0 dX9_ahead_0, r_getf dX9_ahead_1 F9_10, r_il1 dX9_ahead_4, r_il2 dX9_ahead_5, List.cons_append, List.nil_append, Nat.reduceAdd, Option.toList, g9_0, z0, hW.r, rd_own hW.r, hW.r, rd_own hW.r, th_0, th_1, th_2, th_3, th_4, th_5, th_6, th_7, th_8, th_9]
  refine r_iv3 dX9_ahead_6 M9_216 Y7 O7 (Nat.le_of_ble_eq_true rfl) (rcv_own hp.r) (Nat.le_refl _) (Nat.le_refl _) ?_
  refine c_hasTwo hp ?_
  rw [e2]
  simp only [r_if_ne (tgt := 16) dX9_ahead_9 rfl, r_ldc2 dX9_ahead_12 K9_239, r_lret dX9_ahead_15 (Nat.zero_le _) (Nat.zero_le _), r_al0 dX9_ahead_16, r_getf dX9_ahead_17 F9_53, r_al0 dX9_ahead_20, r_getf dX9_ahead_21 F9_10, List.cons_append, List.nil_append, Nat.reduceAdd, Option.toList, g9_0, g9_7, z0, hW.r, rd_own hW.r, hW.r, rd_own hW.r, th_0, th_1, th_2, th_3, th_4, th_5, th_6, th_7, th_8, th_9]
  refine ⟨fun hk => ?_, fun hk => h0 (Classical.not_not.mp hk)⟩
  obtain ⟨k1, k2, k3⟩ := Classical.not_not.mp hk
  obtain ⟨i, hi, rfl⟩ := ix (by omega) k1
  obtain ⟨j, hj, rfl⟩ := ix (by omega) k2
  refine r_iv2 dX9_ahead_24 M9_241 Y89 O89 (Nat.le_of_ble_eq_true rfl) (rcv_own hW.ta.r) (Nat.le_refl _) (Nat.le_refl _) ?_
  refine c_taly2 hW e2 l2 hc hc2 (fun hm' V' AA' R' hW' h1 h2 h3 h4 h5 h6 => ?_)
  simp only [r_al0 dX9_ahead_27, r_getf dX9_ahead_28 F9_53, r_il1 dX9_ahead_31, r_il2 dX9_ahead_32, List.cons_append, List.nil_append, Nat.reduceAdd, Option.toList, g9_7, z0, hW'.r, rd_own hW'.r, hW'.r, rd_own hW'.r, th_0, th_1, th_2, th_3, th_4, th_5, th_6, th_7, th_8, th_9]
  refine r_iv3 dX9_ahead_33 M9_244 Y92 O92 (Nat.le_of_ble_eq_true rfl) (rcv_own hW'.ta.r) (Nat.le_refl _) (Nat.le_refl _) ?_
  refine c_comesAhead hW'.ta (by omega) (by omega) ?_
  simp only [r_i2l dX9_ahead_36, r_lret dX9_ahead_37 (Nat.zero_le _) (Nat.zero_le _), List.cons_append, List.nil_append, Nat.reduceAdd, Option.toList, z0]
  exact hQ i j hi hj (fun e => k3 (by rw [e])) rfl rfl hm' V' AA' R' hW' h1 h2 h3 h4 h5 (h6.wide (by omega))
theorem c_layers (hW : TW hm t pa pb qa qb V AA R) (e2 : V 0 2 = nI n) (l2 : n ≤ 12) (hQ : Q (some (.int (nI (mxl (layv (AA 0 12) n) n)))) hm hs) : CC X EV (d + 4) 119 [.ref t] hm hs Q := by
  refine c_of (ls2 := [.ref t]) Y119 (Nat.le_of_ble_eq_true rfl) rfl I119 ?_
  simp only [r_al0 dX9_layers_0, r_getf dX9_layers_1 F9_10, List.cons_append, List.nil_append, Nat.reduceAdd, Option.toList, g9_0, z0, hW.r, rd_own hW.r, hW.r, rd_own hW.r, th_0, th_1, th_2, th_3, th_4, th_5, th_6, th_7, th_8, th_9]
  refine r_iv1 dX9_layers_4 M9_251 Y31 O31 (Nat.le_of_ble_eq_true rfl) (rcv_own hW.pg.r) (Nat.le_refl _) (Nat.le_refl _) ?_
  refine c_countLayers hW.pg e2 l2 ?_
  simp only [r_iret dX9_layers_7 (Nat.zero_le _) (Nat.zero_le _), List.cons_append, List.nil_append, Nat.reduceAdd, Option.toList, z0]
  exact hQ
theorem c_top {x y : Int32} (hW : TW hm t pa pb qa qb V AA R) (hz : SZ V AA n w h nl np nw nr) (hQ : Q (some (.int (if (0 ≤ x ∧ x < V 0 0) ∧ (0 ≤ y ∧ y < V 0 1) then topv (AA 0 12) (sAt (V 0) (AA 0) x y) n else -2))) hm hs) : CC X EV (d + 3) 120 [.ref t, .int x, .int y] hm hs Q := by
  obtain ⟨⟨e0, l0⟩, ⟨e1, l1⟩, ⟨e2, l2⟩, ⟨e3, l3⟩, hS⟩ := hz
  have hp := hW.pg
  refine c_of (ls2 := [.ref t, .int x, .int y]) Y120 (Nat.le_of_ble_eq_true rfl) rfl I120 ?_
  simp only [r_al0 dX9_top_0, r_getf dX9_top_1 F9_10, r_il1 dX9_top_4, r_il2 dX9_top_5, List.cons_append, List.nil_append, Nat.reduceAdd, Option.toList, g9_0, z0, hW.r, rd_own hW.r, hW.r, rd_own hW.r, th_0, th_1, th_2, th_3, th_4, th_5, th_6, th_7, th_8, th_9]
  refine r_iv3 dX9_top_6 M9_254 Y8 O8 (Nat.le_of_ble_eq_true rfl) (rcv_own hp.r) (Nat.le_refl _) (Nat.le_refl _) ?_
  refine c_hasCell hp ?_
  simp only [r_if_ne (tgt := 15) dX9_top_9 rfl, r_bipush dX9_top_12 kbm2, r_iret dX9_top_14 (Nat.zero_le _) (Nat.zero_le _), r_al0 dX9_top_15, r_getf dX9_top_16 F9_10, r_al0 dX9_top_19, r_getf dX9_top_20 F9_10, r_il1 dX9_top_23, r_il2 dX9_top_24, List.cons_append, List.nil_append, Nat.reduceAdd, Option.toList, g9_0, z0, hW.r, rd_own hW.r, hW.r, rd_own hW.r, th_0, th_1, th_2, th_3, th_4, th_5, th_6, th_7, th_8, th_9]
  refine ⟨fun hk => ?_, fun hk => by rw [if_neg (Classical.not_not.mp hk)] at hQ; exact hQ⟩
  rw [if_pos (Classical.not_not.mp hk)] at hQ
  refine r_iv3 dX9_top_25 M9_257 Y9 O9 (Nat.le_of_ble_eq_true rfl) (rcv_own hp.r) (Nat.le_refl _) (Nat.le_refl _) ?_
  refine c_strokesAt hp e0 e1 l0 l1 ?_
  refine r_iv2 dX9_top_28 M9_260 Y32 O32 (Nat.le_of_ble_eq_true rfl) (rcv_own hp.r) (Nat.le_refl _) (Nat.le_refl _) ?_
  refine c_topOf hp e2 l2 ?_
  simp only [r_iret dX9_top_31 (Nat.zero_le _) (Nat.zero_le _), List.cons_append, List.nil_append, Nat.reduceAdd, Option.toList, z0]
  exact hQ
theorem c_seen {x y : Int32} (hW : TW hm t pa pb qa qb V AA R) (hz : SZ V AA n w h nl np nw nr) (hQ : Q (some (.int (if (0 ≤ x ∧ x < V 0 0) ∧ (0 ≤ y ∧ y < V 0 1) then seenv (AA 0 12) n (sAt (V 0) (AA 0) x y) (mlow (V 0 4) (AA 0 12) n) else -2))) hm hs) : CC X EV (d + 3) 121 [.ref t, .int x, .int y] hm hs Q := by
  obtain ⟨⟨e0, l0⟩, ⟨e1, l1⟩, ⟨e2, l2⟩, ⟨e3, l3⟩, hS⟩ := hz
  have hp := hW.pg
  refine c_of (ls2 := [.ref t, .int x, .int y]) Y121 (Nat.le_of_ble_eq_true rfl) rfl I121 ?_
  simp only [r_al0 dX9_seen_0, r_getf dX9_seen_1 F9_10, r_il1 dX9_seen_4, r_il2 dX9_seen_5, List.cons_append, List.nil_append, Nat.reduceAdd, Option.toList, g9_0, z0, hW.r, rd_own hW.r, hW.r, rd_own hW.r, th_0, th_1, th_2, th_3, th_4, th_5, th_6, th_7, th_8, th_9]
  refine r_iv3 dX9_seen_6 M9_254 Y8 O8 (Nat.le_of_ble_eq_true rfl) (rcv_own hp.r) (Nat.le_refl _) (Nat.le_refl _) ?_
  refine c_hasCell hp ?_
  simp only [r_if_ne (tgt := 15) dX9_seen_9 rfl, r_bipush dX9_seen_12 kbm2, r_iret dX9_seen_14 (Nat.zero_le _) (Nat.zero_le _), r_al0 dX9_seen_15, r_getf dX9_seen_16 F9_10, r_al0 dX9_seen_19, r_getf dX9_seen_20 F9_10, r_il1 dX9_seen_23, r_il2 dX9_seen_24, List.cons_append, List.nil_append, Nat.reduceAdd, Option.toList, g9_0, z0, hW.r, rd_own hW.r, hW.r, rd_own hW.r, th_0, th_1, th_2, th_3, th_4, th_5, th_6, th_7, th_8, th_9]
  refine ⟨fun hk => ?_, fun hk => by rw [if_neg (Classical.not_not.mp hk)] at hQ; exact hQ⟩
  rw [if_pos (Classical.not_not.mp hk)] at hQ
  refine r_iv3 dX9_seen_25 M9_257 Y9 O9 (Nat.le_of_ble_eq_true rfl) (rcv_own hp.r) (Nat.le_refl _) (Nat.le_refl _) ?_
  refine c_strokesAt hp e0 e1 l0 l1 ?_
  simp only [r_al0 dX9_seen_28, r_getf dX9_seen_29 F9_10, r_al0 dX9_seen_32, r_getf dX9_seen_33 F9_10, r_getf dX9_seen_36 F9_263, List.cons_append, List.nil_append, Nat.reduceAdd, Option.toList, g1_4, g9_0, z0, hW.r, rd_own hW.r, hW.r, rd_own hW.r, th_0, th_1, th_2, th_3, th_4, th_5, th_6, th_7, th_8, th_9, hp.r, rd_own hp.r, hp.r, rd_own hp.r]
  refine r_iv2 dX9_seen_39 M9_266 Y26 O26 (Nat.le_of_ble_eq_true rfl) (rcv_own hp.r) (Nat.le_refl _) (Nat.le_refl _) ?_
  refine c_mustBeLower hp e2 l2 ?_
  refine r_iv3 dX9_seen_42 M9_269 Y33 O33 (Nat.le_of_ble_eq_true rfl) (rcv_own hp.r) (Nat.le_refl _) (Nat.le_refl _) ?_
  refine c_seenOf hp e2 l2 ?_
  simp only [r_iret dX9_seen_45 (Nat.zero_le _) (Nat.zero_le _), List.cons_append, List.nil_append, Nat.reduceAdd, Option.toList, z0]
  exact hQ
end Q2
