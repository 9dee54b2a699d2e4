/-- orders, were one over another one, too -/
def ordW (S : Nat → Int32) (n a b : Nat) : Nat := if bt (cl S n b) a = true then 0 else lin (upd (cl S n) a (cl S n a ||| sb b)) n (2 ^ n - 1)
/-- what is there ahead of the i-th of the order, as the model has it -/
def ordm (o : Nat → Int32) (n : Nat) : Nat → Int32
  | 0 => 0
  | i + 1 => ordm o n i ||| sb (fstN (fun k => bt (ordm o n i) k = false ∧ o k &&& (ordm o n i ^^^ (-1)) = 0) n)
/-- the layer of a stroke, as the model asks: so many levels deep -/
def layS (S : Nat → Int32) (n : Nat) (g : Nat → Nat) (k : Nat) : Nat → Nat
  | 0 => 0
  | o + 1 => if bt (S (195 + k)) o = true then max (layS S n g k o) (g o + 1) else layS S n g k o
def layM (S : Nat → Int32) (n : Nat) : Nat → Nat → Nat
  | 0, _ => 0
  | f + 1, k => layS S n (layM S n f) k n
theorem layS_le {S : Nat → Int32} {n : Nat} {g : Nat → Nat} {k b : Nat} (h : ∀ o, g o ≤ b) : ∀ o, layS S n g k o ≤ b + 1 := by
  intro o
  induction o with
  | zero => exact Nat.zero_le _
  | succ o ih => unfold layS; have := h o; split <;> omega
theorem layM_le (S : Nat → Int32) (n : Nat) : ∀ f k, layM S n f k ≤ f := by
  intro f
  induction f with
  | zero => intro k; exact Nat.zero_le _
  | succ f ih => intro k; exact layS_le (fun o => ih o) n
theorem lg_le0' {a b : Int64} : (lg_cmp a b ≤ 0) = ¬ b < a := lg_le0
section M20
variable {X : HM} {EV : Nat → Value} {d : Nat} {hm : HM} {hs : Nat} {Q : QT} {m n : Nat} {u : Nat → Int32} {A : Nat → Nat → Int32} {R : Nat → Int64} {w h nl np nw nr : Nat} {L : Nat → Nat}
theorem m_orders (hM : MO hm m u A R) (hn : A 0 2 = nI n) (hn12 : n ≤ 12)
    (hQ : ∀ hm' u' A' R', MO hm' m u' A' R' → KM u u' A A' → sm m (m + 16) hm hm' → Q (some (.long (lN (lin (cl (A 0) n) n (2 ^ n - 1))))) hm' hs) : CC X EV (d + 3) 210 [.ref m] hm hs Q := by
  have hM1 := hM.o (upd u 4 0)
  have s1 : sm m (m + 16) hm (im_up hm m (.inr (10, fs_MO m (upd u 4 0)))) := sm.rf.up (by omega)
  refine c_of (ls2 := [.ref m]) Y210 (Nat.le_of_ble_eq_true rfl) rfl I210 ?_
  simp (disch := first | omega | (simp only [List.length_cons, List.length_nil]; omega)) only [r_al0 dX10_orders_0, r_iconst dX10_orders_1 ki0, r_putf dX10_orders_2 F10_1, r_al0 dX10_orders_5, List.cons_append, List.nil_append, Nat.reduceAdd, Option.toList, fit_i, ft10_4, p10_4, pk_un, pk_us, rd_up_eq, rd_up_ne, true_and, up_eq, up_ne, up_up, z0, hM.r, rd_own hM.r, hM.r, rd_own hM.r]
  generalize im_up hm m (.inr (10, fs_MO m (upd u 4 0))) = hm1 at hM1 s1 ⊢
  refine r_iv1 dX10_orders_6 M10_169 Y189 O189 (Nat.le_of_ble_eq_true rfl) (rcv_own hM1.r) (Nat.le_refl _) (Nat.le_refl _) ?_
  refine m_laysOver2 hM1 hn hn12 (fun hm2 A2 hM2 k2 l2 s2 => ?_)
  rw [← k2.S] at hn hQ
  simp only [r_al0 dX10_orders_9, List.cons_append, List.nil_append, Nat.reduceAdd, Option.toList, z0]
  refine r_iv1 dX10_orders_10 M10_259 Y209 O209 (Nat.le_of_ble_eq_true rfl) (rcv_own hM2.r) (Nat.le_refl _) (Nat.le_refl _) ?_
  refine m_ordersNow hM2 hn hn12 (fun hm3 R3 hM3 s3 => ?_)
  rw [lin_ext l2]
  simp only [r_lret dX10_orders_13 (Nat.zero_le _) (Nat.zero_le _), List.cons_append, List.nil_append, Nat.reduceAdd, Option.toList, z0]
  exact hQ hm3 _ A2 R3 hM3 (KM.rf.u4.trans k2) ((s1.trans s2).trans s3)
theorem m_ordersWith {a b : Nat} (hM : MO hm m u A R) (hn : A 0 2 = nI n) (hn12 : n ≤ 12) (ha : a < n) (hb : b < n)
    (hQ : ∀ hm' A' R', MO hm' m u A' R' → KM u u A A' → sm m (m + 16) hm hm' → Q (some (.long (lN (ordW (A 0) n a b)))) hm' hs) : CC X EV (d + 3) 211 [.ref m, .int (nI a), .int (nI b)] hm hs Q := by
  have hia := vp_in_nI (show a < 12 by omega) (by omega)
  have hib := vp_in_nI (show b < 12 by omega) (by omega)
  refine c_of (ls2 := [.ref m, .int (nI a), .int (nI b)]) Y211 (Nat.le_of_ble_eq_true rfl) rfl I211 ?_
  simp only [r_al0 dX10_ordersWith_0, List.cons_append, List.nil_append, Nat.reduceAdd, Option.toList, z0]
  refine r_iv1 dX10_ordersWith_1 M10_169 Y189 O189 (Nat.le_of_ble_eq_true rfl) (rcv_own hM.r) (Nat.le_refl _) (Nat.le_refl _) ?_
  refine m_laysOver2 hM hn hn12 (fun hm2 A2 hM2 k2 l2 s2 => ?_)
  rw [← k2.S] at hn hQ
  unfold ordW at hQ
  simp only [r_al0 dX10_ordersWith_4, r_getf dX10_ordersWith_5 F10_30, r_il2 dX10_ordersWith_8, r_iald dX10_ordersWith_9, r_il1 dX10_ordersWith_10, List.cons_append, List.nil_append, Nat.reduceAdd, Option.toList, aI_ok, g10_13, z0, hM2.r, rd_own hM2.r, hM2.r13, rd_own hM2.r13, nI_clamp (show b < 2 ^ 31 by omega)]
  refine ⟨hib, ?_⟩
  refine r_ist2 dX10_ordersWith_11 M10_178 Y156 (Nat.le_of_ble_eq_true rfl) (Nat.le_refl _) (Nat.le_refl _) ?_
  refine m_has (by omega) ?_
  rw [l2 b hb]
  simp (disch := first | omega | (simp only [List.length_cons, List.length_nil]; omega)) only [r_if_eq (tgt := 19) dX10_ordersWith_14 rfl, r_lconst dX10_ordersWith_17 kl0, r_lret dX10_ordersWith_18 (Nat.zero_le _) (Nat.zero_le _), r_al0 dX10_ordersWith_19, r_getf dX10_ordersWith_20 F10_30, r_il1 dX10_ordersWith_23, r_dup2_ir dX10_ordersWith_24, r_dup2_l dX10_ordersWith_24, r_iald dX10_ordersWith_25, r_iconst dX10_ordersWith_26 ki1, r_il2 dX10_ordersWith_27, r_ishl dX10_ordersWith_28, r_ior dX10_ordersWith_29, r_iast dX10_ordersWith_30, r_al0 dX10_ordersWith_31, List.cons_append, List.nil_append, Nat.reduceAdd, Option.toList, aI_ok, g10_13, pk_un, pk_us, rd_up_eq, rd_up_ne, sI_ok, up_eq, up_ne, up_up, z0, hM2.r, rd_own hM2.r, hM2.r13, rd_own hM2.r13, nI_clamp (show a < 2 ^ 31 by omega)]
  refine ⟨fun h => ⟨hia, hia, ?_⟩, fun h => ?_⟩
  · rw [if_neg h] at hQ
    have hM3 := hM2.w13 (upd (A2 13) a (A2 13 a ||| sb b))
    have s3 := s2.up (a := m + 5) (c := ia 12 (upd (A2 13) a (A2 13 a ||| sb b))) (by omega)
    refine r_iv1 dX10_ordersWith_32 M10_259 Y209 O209 (Nat.le_of_ble_eq_true rfl) (rcv_own hM3.r) (Nat.le_refl _) (Nat.le_refl _) ?_
    refine m_ordersNow hM3 (n := n) hn hn12 (fun hm4 R4 hM4 s4 => ?_)
    have e : lin (va_up A2 13 (upd (A2 13) a (A2 13 a ||| sb b)) 13) n (2 ^ n - 1) = lin (upd (cl (A2 0) n) a (cl (A2 0) n a ||| sb b)) n (2 ^ n - 1) := by
      refine lin_ext (fun k hk => ?_) _
      rw [vu_eq]
      by_cases ek : k = a
      · rw [ek, pk_us, pk_us, l2 a ha]
      · rw [pk_un ek, pk_un ek, l2 k hk]
    rw [e]
    simp only [r_lret dX10_ordersWith_35 (Nat.zero_le _) (Nat.zero_le _), List.cons_append, List.nil_append, Nat.reduceAdd, Option.toList, z0]
    exact hQ hm4 _ R4 hM4 ⟨fun _ _ _ _ _ _ => rfl, fun s c1 c2 c3 c4 => by rw [vu_ne c1]; exact k2.2 s c1 c2 c3 c4⟩ (s3.trans s4)
  · rw [if_pos (Classical.not_not.mp h)] at hQ
    exact hQ hm2 A2 R hM2 k2 s2
theorem m_ahead {a b : Int32} (hM : MO hm m u A R) (hn : A 0 2 = nI n) (hn12 : n ≤ 12)
    (h0 : ¬ ((0 ≤ a ∧ a < nI n) ∧ (0 ≤ b ∧ b < nI n) ∧ a ≠ b) → ∀ hm' u' A', MO hm' m u' A' R → KM u u' A A' → sm m (m + 16) hm hm' → Q (some (.long (-2))) hm' hs)
    (hQ : ∀ i j, i < n → j < n → i ≠ j → a = nI i → b = nI j → ∀ hm' u' A' R', MO hm' m u' A' R' → KM u u' A A' → sm m (m + 16) hm hm' → Q (some (.long (lN (ordW (A 0) n j i)))) hm' hs) : CC X EV (d + 4) 212 [.ref m, .int a, .int b] hm hs Q := by
  have hM1 := hM.o (upd u 4 0)
  have s1 : sm m (m + 16) hm (im_up hm m (.inr (10, fs_MO m (upd u 4 0)))) := sm.rf.up (by omega)
  refine c_of (ls2 := [.ref m, .int a, .int b]) Y212 (Nat.le_of_ble_eq_true rfl) rfl I212 ?_
  simp (disch := first | omega | (simp only [List.length_cons, List.length_nil]; omega)) only [r_al0 dX10_ahead_0, r_iconst dX10_ahead_1 ki0, r_putf dX10_ahead_2 F10_1, r_al0 dX10_ahead_5, r_il1 dX10_ahead_6, List.cons_append, List.nil_append, Nat.reduceAdd, Option.toList, fit_i, ft10_4, p10_4, pk_un, pk_us, rd_up_eq, rd_up_ne, true_and, up_eq, up_ne, up_up, z0, hM.r, rd_own hM.r, hM.r, rd_own hM.r]
  generalize im_up hm m (.inr (10, fs_MO m (upd u 4 0))) = hm1 at hM1 s1 ⊢
  refine r_iv2 dX10_ahead_7 M10_229 Y182 O182 (Nat.le_of_ble_eq_true rfl) (rcv_own hM1.r) (Nat.le_refl _) (Nat.le_refl _) ?_
  refine m_isStroke hM1 hn hn12 ?_
  simp only [r_if_eq (tgt := 35) dX10_ahead_10 rfl, r_al0 dX10_ahead_13, r_il2 dX10_ahead_14, r_ldc2 dX10_ahead_35 K10_267, r_lret dX10_ahead_38 (Nat.zero_le _) (Nat.zero_le _), List.cons_append, List.nil_append, Nat.reduceAdd, Option.toList, z0]
  refine ⟨fun h => h0 (fun z => h z.1) _ _ _ hM1 KM.rf.u4 s1, fun h => ?_⟩
  refine r_iv2 dX10_ahead_15 M10_229 Y182 O182 (Nat.le_of_ble_eq_true rfl) (rcv_own hM1.r) (Nat.le_refl _) (Nat.le_refl _) ?_
  refine m_isStroke hM1 hn hn12 ?_
  simp only [r_if_eq (tgt := 35) dX10_ahead_18 rfl, r_il1 dX10_ahead_21, r_il2 dX10_ahead_22, r_ic_eq (tgt := 35) dX10_ahead_23 rfl, r_al0 dX10_ahead_26, r_il2 dX10_ahead_27, r_il1 dX10_ahead_28, r_ldc2 dX10_ahead_35 K10_267, r_lret dX10_ahead_38 (Nat.zero_le _) (Nat.zero_le _), List.cons_append, List.nil_append, Nat.reduceAdd, Option.toList, z0]
  refine ⟨fun h2 => h0 (fun z => h2 z.2.1) _ _ _ hM1 KM.rf.u4 s1, fun h2 => ⟨fun h3 => h0 (fun z => z.2.2 h3) _ _ _ hM1 KM.rf.u4 s1, fun h3 => ?_⟩⟩
  obtain ⟨i, hi, rfl⟩ := ix (by omega) (Classical.not_not.mp h)
  obtain ⟨j, hj, rfl⟩ := ix (by omega) (Classical.not_not.mp h2)
  refine r_iv3 dX10_ahead_29 M10_263 Y211 O211 (Nat.le_of_ble_eq_true rfl) (rcv_own hM1.r) (Nat.le_refl _) (Nat.le_refl _) ?_
  refine m_ordersWith hM1 (n := n) hn hn12 hj hi (fun hm2 A2 R2 hM2 k2 s2 => ?_)
  simp only [r_goto (tgt := 38) dX10_ahead_32 rfl, r_lret dX10_ahead_38 (Nat.zero_le _) (Nat.zero_le _), List.cons_append, List.nil_append, Nat.reduceAdd, Option.toList, z0]
  exact hQ i j hi hj (fun e => h3 (congrArg nI e)) rfl rfl hm2 _ A2 R2 hM2 (KM.rf.u4.trans k2) (s1.trans s2)
theorem m_order {k : Int32} (hM : MO hm m u A R) (hn : A 0 2 = nI n) (hn12 : n ≤ 12)
    (hex : ∀ i, i < n → fstN (fun k => bt (ordm (cl (A 0) n) n i) k = false ∧ cl (A 0) n k &&& (ordm (cl (A 0) n) n i ^^^ (-1)) = 0) n < n)
    (h0 : k < 0 → ∀ hm' u' A', MO hm' m u' A' R → KM u u' A A' → sm m (m + 16) hm hm' → Q (some (.int (-3))) hm' hs)
    (h1 : ¬ k < 0 → ¬ k < nI n → ∀ hm' u' A', MO hm' m u' A' R → KM u u' A A' → sm m (m + 16) hm hm' → Q (some (.int (-1))) hm' hs)
    (h2 : ∀ i, i < n → k = nI i → ∀ hm' u' A', MO hm' m u' A' R → KM u u' A A' → sm m (m + 16) hm hm' → Q (some (.int (nI (fstN (fun k => bt (ordm (cl (A 0) n) n i) k = false ∧ cl (A 0) n k &&& (ordm (cl (A 0) n) n i ^^^ (-1)) = 0) n)))) hm' hs) : CC X EV (d + 3) 208 [.ref m, .int k] hm hs Q := by
  have hM1 := hM.o (upd u 4 0)
  have s1 : sm m (m + 16) hm (im_up hm m (.inr (10, fs_MO m (upd u 4 0)))) := sm.rf.up (by omega)
  refine c_of (ls2 := [.ref m, .int k, .null, .null, .null]) Y208 (Nat.le_of_ble_eq_true rfl) rfl I208 ?_
  simp (disch := first | omega | (simp only [List.length_cons, List.length_nil]; omega)) only [r_al0 dX10_order_0, r_iconst dX10_order_1 ki0, r_putf dX10_order_2 F10_1, r_il1 dX10_order_5, r_if_ge (tgt := 12) dX10_order_6 rfl, r_bipush dX10_order_9 kbm3, r_iret dX10_order_11 (Nat.zero_le _) (Nat.zero_le _), r_al0 dX10_order_12, List.cons_append, List.nil_append, Nat.reduceAdd, Option.toList, fit_i, ft10_4, p10_4, pk_un, pk_us, rd_up_eq, rd_up_ne, true_and, up_eq, up_ne, up_up, z0, hM.r, rd_own hM.r, hM.r, rd_own hM.r]
  generalize im_up hm m (.inr (10, fs_MO m (upd u 4 0))) = hm1 at hM1 s1 ⊢
  refine ⟨fun h => ?_, fun h => h0 (Int32.not_le.mp h) _ _ _ hM1 KM.rf.u4 s1⟩
  obtain ⟨kk, hkk, rfl⟩ := nI_of (Int32.not_lt.mpr h)
  refine r_iv1 dX10_order_13 M10_169 Y189 O189 (Nat.le_of_ble_eq_true rfl) (rcv_own hM1.r) (Nat.le_refl _) (Nat.le_refl _) ?_
  refine m_laysOver2 hM1 hn hn12 (fun hm2 A2 hM2 k2 l2 s2 => ?_)
  have h1 := fun a b => h1 a b hm2 _ A2 hM2 (KM.rf.u4.trans k2) (s1.trans s2)
  have h2 := fun i a b => h2 i a b hm2 _ A2 hM2 (KM.rf.u4.trans k2) (s1.trans s2)
  rw [← k2.S] at hn h2 hex
  simp only [r_iconst dX10_order_16 ki0, r_is2 dX10_order_17, r_iconst dX10_order_18 ki0, r_is3 dX10_order_19, List.cons_append, List.nil_append, Nat.reduceAdd, Option.toList, cat_f, cat_i, cat_n, cat_r, eq_self, true_and, z0]
  suffices H : ∀ i, i ≤ n → ∀ y, i ≤ kk → E1 X EV (d + 2) 10 0 0 (some .int) false cX10_order Q 20 [.ref m, .int (nI kk), .int (ordm (cl (A2 0) n) n i), .int (nI i), y] [] 0 0 hm2 hs from H 0 (by omega) _ (by omega)
  refine up_loop n _ ?_ ?_
  · intro y hik
    simp only [r_il3 dX10_order_20, r_al0 dX10_order_21, r_getf dX10_order_22 F10_13, r_iconst dX10_order_25 ki2, r_iald dX10_order_26, r_ic_ge (tgt := 83) dX10_order_27 rfl, r_iconst dX10_order_30 ki0, r_is4 dX10_order_31, r_iconst dX10_order_83 kim1, r_iret dX10_order_84 (Nat.zero_le _) (Nat.zero_le _), List.cons_append, List.nil_append, Nat.reduceAdd, Option.toList, aI_ok, cat_f, cat_i, cat_n, cat_r, eq_self, g10_0, true_and, z0, hM2.r, rd_own hM2.r, hM2.r0, rd_own hM2.r0, vs2, ck2, hn, true_and]
    refine ⟨fun _ => h1 (Int32.not_lt.mpr h) (fun z => absurd ((nI_ltI (by omega) (by omega)).mp z) (by omega)), fun z => absurd (Int32.le_refl _) z⟩
  · intro i hi ih y hik
    have hx := hex i hi
    have hmin : ∀ j, j < fstN (fun k => bt (ordm (cl (A2 0) n) n i) k = false ∧ cl (A2 0) n k &&& (ordm (cl (A2 0) n) n i ^^^ (-1)) = 0) n → ¬ (bt (ordm (cl (A2 0) n) n i) j = false ∧ cl (A2 0) n j &&& (ordm (cl (A2 0) n) n i ^^^ (-1)) = 0) := fun j hj => fstN_min hj
    have hat := fstN_lt hx
    have h2 := h2 i hi
    unfold ordm at ih
    generalize fstN (fun k => bt (ordm (cl (A2 0) n) n i) k = false ∧ cl (A2 0) n k &&& (ordm (cl (A2 0) n) n i ^^^ (-1)) = 0) n = z at hx hmin hat h2 ih
    generalize ordm (cl (A2 0) n) n i = D at hmin hat ih ⊢
    simp only [r_il3 dX10_order_20, r_al0 dX10_order_21, r_getf dX10_order_22 F10_13, r_iconst dX10_order_25 ki2, r_iald dX10_order_26, r_ic_ge (tgt := 83) dX10_order_27 rfl, r_iconst dX10_order_30 ki0, r_is4 dX10_order_31, r_iconst dX10_order_83 kim1, r_iret dX10_order_84 (Nat.zero_le _) (Nat.zero_le _), List.cons_append, List.nil_append, Nat.reduceAdd, Option.toList, aI_ok, cat_f, cat_i, cat_n, cat_r, eq_self, g10_0, true_and, z0, hM2.r, rd_own hM2.r, hM2.r0, rd_own hM2.r0, vs2, ck2, hn, true_and]
    refine ⟨fun q => absurd ((nI_leI (by omega) (by omega)).mp q) (by omega), fun _ => ?_⟩
    suffices H : ∀ x, x ≤ z → E1 X EV (d + 2) 10 0 0 (some .int) false cX10_order Q 33 [.ref m, .int (nI kk), .int D, .int (nI i), .int (nI x)] [] 0 0 hm2 hs from H 0 (by omega)
    refine up_loop z _ ?_ ?_
    · skip
      simp only [r_il2 dX10_order_33, r_il4 dX10_order_34, List.cons_append, List.nil_append, Nat.reduceAdd, Option.toList, z0]
      refine r_ist2 dX10_order_36 M10_178 Y156 (Nat.le_of_ble_eq_true rfl) (Nat.le_refl _) (Nat.le_refl _) ?_
      refine m_has (by omega) ?_
      rw [hat.1]
      simp only [r_if_ne (tgt := 56) dX10_order_39 rfl, r_al0 dX10_order_42, r_getf dX10_order_43 F10_30, r_il4 dX10_order_46, r_iald dX10_order_48, r_il2 dX10_order_49, r_iconst dX10_order_50 kim1, r_ixor dX10_order_51, r_iand dX10_order_52, r_if_eq (tgt := 62) dX10_order_53 rfl, r_ii4 dX10_order_56 kn1, r_gotoB (tgt := 33) dX10_order_59 rfl, r_il3 dX10_order_62, r_il1 dX10_order_63, r_ic_ne (tgt := 70) dX10_order_64 rfl, r_il4 dX10_order_67, r_iret dX10_order_69 (Nat.zero_le _) (Nat.zero_le _), r_il2 dX10_order_70, r_iconst dX10_order_71 ki1, r_il4 dX10_order_72, r_ishl dX10_order_74, r_ior dX10_order_75, r_is2 dX10_order_76, r_ii3 dX10_order_77 kn1, r_gotoB (tgt := 20) dX10_order_80 rfl, List.cons_append, List.nil_append, Nat.reduceAdd, Option.toList, aI_ok, cat_f, cat_i, cat_n, cat_r, eq_self, g10_13, true_and, z0, hM2.r, rd_own hM2.r, hM2.r13, rd_own hM2.r13, nI_clamp (show z < 2 ^ 31 by omega), l2 z hx, hat.2]
      refine ⟨fun q => absurd q (by decide), fun _ => ⟨vp_in_nI (by omega) (by omega), fun _ => ⟨fun q => ?_, fun q => ?_⟩, fun q => absurd trivial q⟩⟩
      · try simp (disch := omega) only [E2, nI_1, nI_add, nI_leI, nI_ltI, nI_eq, nI_clamp]
        have hne : i ≠ kk := fun e => q (by rw [e])
        exact ih _ (by omega)
      · have := (nI_eq (by omega) (by omega)).mp (Classical.not_not.mp q)
        exact h2 (by rw [this])
    · intro x hx2 ih2
      have hno := hmin x hx2
      simp only [r_il2 dX10_order_33, r_il4 dX10_order_34, List.cons_append, List.nil_append, Nat.reduceAdd, Option.toList, z0]
      refine r_ist2 dX10_order_36 M10_178 Y156 (Nat.le_of_ble_eq_true rfl) (Nat.le_refl _) (Nat.le_refl _) ?_
      refine m_has (by omega) ?_
      simp only [r_if_ne (tgt := 56) dX10_order_39 rfl, r_al0 dX10_order_42, r_getf dX10_order_43 F10_30, r_il4 dX10_order_46, r_iald dX10_order_48, r_il2 dX10_order_49, r_iconst dX10_order_50 kim1, r_ixor dX10_order_51, r_iand dX10_order_52, r_if_eqB (tgt := 62) dX10_order_53 rfl, r_ii4 dX10_order_56 kn1, r_gotoB (tgt := 33) dX10_order_59 rfl, List.cons_append, List.nil_append, Nat.reduceAdd, Option.toList, aI_ok, cat_f, cat_i, cat_n, cat_r, eq_self, g10_13, true_and, z0, hM2.r, rd_own hM2.r, hM2.r13, rd_own hM2.r13, nI_clamp (show x < 2 ^ 31 by omega), l2 x (by omega)]
      refine ⟨fun q => ?_, fun q => ⟨vp_in_nI (by omega) (by omega), fun q2 => ?_, fun q2 => ?_⟩⟩
      · try simp (disch := omega) only [E2, nI_1, nI_add, nI_leI, nI_ltI, nI_eq, nI_clamp]
        exact ih2
      · exact absurd ⟨by grind, q2⟩ hno
      · try simp (disch := omega) only [E2, nI_1, nI_add, nI_leI, nI_ltI, nI_eq, nI_clamp]
        exact ih2
theorem m_span {k wh : Int32} (hM : MO hm m u A R) (hn : A 0 2 = nI n) (hn12 : n ≤ 12) (hall : ¬ lN (lin (cl (A 0) n) n (2 ^ n - 1)) = 0)
    (h0 : ¬ ((0 ≤ k ∧ k < nI n) ∧ (0 ≤ wh ∧ wh ≤ 2)) → ∀ hm' u' A', MO hm' m u' A' R → KM u u' A A' → sm m (m + 16) hm hm' → Q (some (.long (-2))) hm' hs)
    (hQ : ∀ i, i < n → k = nI i → (0 ≤ wh ∧ wh ≤ 2) → ∀ hm' u' A' R', MO hm' m u' A' R' → KM u u' A A' → sm m (m + 16) hm hm' → Q (some (.long (if wh = 0 then (pcnt (cl (A 0) n i)).toInt64 else if wh = 1 then (nI n - 1 - pcnt (acc (fun o => bt (cl (A 0) n o) i = true) n)).toInt64 else 1000 * lN (lsum (fun k => if k = i then 0 else ordW (A 0) n i k) n) / lN (lin (cl (A 0) n) n (2 ^ n - 1))))) hm' hs) : CC X EV (d + 4) 215 [.ref m, .int k, .int wh] hm hs Q := by
  have hM1 := hM.o (upd u 4 0)
  have s1 : sm m (m + 16) hm (im_up hm m (.inr (10, fs_MO m (upd u 4 0)))) := sm.rf.up (by omega)
  refine c_of (ls2 := [.ref m, .int k, .int wh, .null, .null, .null, .null, .null]) Y215 (Nat.le_of_ble_eq_true rfl) rfl I215 ?_
  simp (disch := first | omega | (simp only [List.length_cons, List.length_nil]; omega)) only [r_al0 dX10_span_0, r_iconst dX10_span_1 ki0, r_putf dX10_span_2 F10_1, r_al0 dX10_span_5, r_il1 dX10_span_6, List.cons_append, List.nil_append, Nat.reduceAdd, Option.toList, fit_i, ft10_4, p10_4, pk_un, pk_us, rd_up_eq, rd_up_ne, true_and, up_eq, up_ne, up_up, z0, hM.r, rd_own hM.r, hM.r, rd_own hM.r]
  generalize im_up hm m (.inr (10, fs_MO m (upd u 4 0))) = hm1 at hM1 s1 ⊢
  refine r_iv2 dX10_span_7 M10_229 Y182 O182 (Nat.le_of_ble_eq_true rfl) (rcv_own hM1.r) (Nat.le_refl _) (Nat.le_refl _) ?_
  refine m_isStroke hM1 hn hn12 ?_
  simp only [r_if_eq (tgt := 25) dX10_span_10 rfl, r_il2 dX10_span_13, r_i2l dX10_span_14, r_lconst dX10_span_15 kl0, r_ldc2 dX10_span_16 K10_269, r_ldc2 dX10_span_25 K10_267, r_lret dX10_span_28 (Nat.zero_le _) (Nat.zero_le _), List.cons_append, List.nil_append, Nat.reduceAdd, Option.toList, z0]
  refine ⟨fun h => h0 (fun z => h z.1) _ _ _ hM1 KM.rf.u4 s1, fun h => ?_⟩
  refine r_ist3 dX10_span_19 M10_83 Y155 (Nat.le_of_ble_eq_true rfl) (Nat.le_refl _) (Nat.le_refl _) ?_
  rw [l0_, show (2 : Int64) = (2 : Int32).toInt64 from rfl]
  refine m_in ?_
  simp only [r_if_ne (tgt := 29) dX10_span_22 rfl, r_ldc2 dX10_span_25 K10_267, r_lret dX10_span_28 (Nat.zero_le _) (Nat.zero_le _), r_al0 dX10_span_29, List.cons_append, List.nil_append, Nat.reduceAdd, Option.toList, z0]
  refine ⟨fun h2 => ?_, fun h2 => h0 (fun z => Classical.not_not.mp h2 z.2) _ _ _ hM1 KM.rf.u4 s1⟩
  have h2 := Classical.not_not.mp h2
  obtain ⟨i, hi, rfl⟩ := ix (by omega) (Classical.not_not.mp h)
  have hQ := hQ i hi rfl h2
  have hin := vp_in_nI (show i < 12 by omega) (by omega)
  refine r_iv1 dX10_span_30 M10_169 Y189 O189 (Nat.le_of_ble_eq_true rfl) (rcv_own hM1.r) (Nat.le_refl _) (Nat.le_refl _) ?_
  refine m_laysOver2 hM1 hn hn12 (fun hm2 A2 hM2 k2 l2 s2 => ?_)
  rw [← k2.S] at hn hQ hall
  simp only [r_il2 dX10_span_33, r_if_ne (tgt := 48) dX10_span_34 rfl, r_al0 dX10_span_37, r_getf dX10_span_38 F10_30, r_il1 dX10_span_41, r_iald dX10_span_42, r_il2 dX10_span_48, r_iconst dX10_span_49 ki1, r_ic_ne (tgt := 72) dX10_span_50 rfl, r_al0 dX10_span_53, r_getf dX10_span_54 F10_13, r_iconst dX10_span_57 ki2, r_iald dX10_span_58, r_iconst dX10_span_59 ki1, r_isub dX10_span_60, r_al0 dX10_span_61, r_il1 dX10_span_62, r_al0 dX10_span_72, List.cons_append, List.nil_append, Nat.reduceAdd, Option.toList, aI_ok, g10_0, g10_13, z0, hM2.r, rd_own hM2.r, hM2.r0, rd_own hM2.r0, hM2.r13, rd_own hM2.r13, vs2, ck2, hn, true_and, nI_clamp (show i < 2 ^ 31 by omega), l2 i hi]
  refine ⟨fun w0 => ⟨fun w1 => ?_, fun w1 => ?_⟩, fun w0 => ⟨hin, ?_⟩⟩
  · refine r_iv1 dX10_span_73 M10_259 Y209 O209 (Nat.le_of_ble_eq_true rfl) (rcv_own hM2.r) (Nat.le_refl _) (Nat.le_refl _) ?_
    refine m_ordersNow hM2 hn hn12 (fun hm3 R3 hM3 s3 => ?_)
    rw [lin_ext l2]
    rw [if_neg w0, if_neg w1] at hQ
    generalize lin (cl (A2 0) n) n (2 ^ n - 1) = all at hall hQ ⊢
    simp only [r_ls3 dX10_span_76, r_lconst dX10_span_77 kl0, r_ls5 dX10_span_78, r_iconst dX10_span_80 ki0, r_is7 dX10_span_81, List.cons_append, List.nil_append, Nat.reduceAdd, Option.toList, cat_f, cat_i, cat_n, cat_r, eq_self, true_and, z0]
    suffices H : ∀ x, x ≤ n → ∀ hm4 A4 R4, MO hm4 m (upd u 4 0) A4 R4 → KM (upd u 4 0) (upd u 4 0) A2 A4 → sm m (m + 16) hm2 hm4 → E1 X EV (d + 3) 10 0 0 (some .long) false cX10_span Q 83 [.ref m, .int (nI i), .int wh, .long (lN all), .null, .long (lN (lsum (fun k => if k = i then 0 else ordW (A2 0) n i k) x)), .null, .int (nI x)] [] 0 0 hm4 hs from
      H 0 (by omega) hm3 A2 R3 hM3 KM.rf s3
    refine up_loop n _ ?_ ?_
    · intro hm4 A4 R4 hM4 k4 s4
      have e4 : A4 0 2 = nI n := by rw [k4.S]; exact hn
      simp only [r_il7 dX10_span_83, r_al0 dX10_span_85, r_getf dX10_span_86 F10_13, r_iconst dX10_span_89 ki2, r_iald dX10_span_90, r_ic_ge (tgt := 122) dX10_span_91 rfl, r_ll5 dX10_span_94, r_il7 dX10_span_96, r_il1 dX10_span_98, r_ic_ne (tgt := 106) dX10_span_99 rfl, r_lconst dX10_span_102 kl0, r_goto (tgt := 113) dX10_span_103 rfl, r_al0 dX10_span_106, r_il1 dX10_span_107, r_il7 dX10_span_108, r_ladd dX10_span_113, r_ls5 dX10_span_114, r_ii7 dX10_span_116 kn1, r_gotoB (tgt := 83) dX10_span_119 rfl, r_ldc2 dX10_span_122 K10_271, r_ll5 dX10_span_125, r_lmul dX10_span_127, r_ll3 dX10_span_128, r_ldiv dX10_span_129, r_lret dX10_span_130 (Nat.zero_le _) (Nat.zero_le _), List.cons_append, List.nil_append, Nat.reduceAdd, Option.toList, aI_ok, cat_f, cat_i, cat_n, cat_r, eq_self, g10_0, true_and, z0, hM4.r, rd_own hM4.r, hM4.r0, rd_own hM4.r0, vs2, ck2, e4, true_and]
      exact ⟨fun _ => ⟨hall, hQ hm4 _ A4 R4 hM4 ((KM.rf.u4.trans k2).trans k4) ((s1.trans s2).trans s4)⟩, fun z => absurd (Int32.le_refl _) z⟩
    · intro x hx ih hm4 A4 R4 hM4 k4 s4
      have e4 : A4 0 2 = nI n := by rw [k4.S]; exact hn
      simp only [r_il7 dX10_span_83, r_al0 dX10_span_85, r_getf dX10_span_86 F10_13, r_iconst dX10_span_89 ki2, r_iald dX10_span_90, r_ic_ge (tgt := 122) dX10_span_91 rfl, r_ll5 dX10_span_94, r_il7 dX10_span_96, r_il1 dX10_span_98, r_ic_ne (tgt := 106) dX10_span_99 rfl, r_lconst dX10_span_102 kl0, r_gotoB (tgt := 113) dX10_span_103 rfl, r_al0 dX10_span_106, r_il1 dX10_span_107, r_il7 dX10_span_108, r_ldc2 dX10_span_122 K10_271, r_ll5 dX10_span_125, r_lmul dX10_span_127, r_ll3 dX10_span_128, r_ldiv dX10_span_129, r_lret dX10_span_130 (Nat.zero_le _) (Nat.zero_le _), List.cons_append, List.nil_append, Nat.reduceAdd, Option.toList, aI_ok, g10_0, z0, hM4.r, rd_own hM4.r, hM4.r0, rd_own hM4.r0, vs2, ck2, e4, true_and]
      refine ⟨fun q => absurd ((nI_leI (by omega) (by omega)).mp q) (by omega), fun _ => ⟨fun q => ?_, fun q => ?_⟩⟩
      · have hne : ¬ x = i := fun e => q (by rw [e])
        refine r_iv3 dX10_span_110 M10_263 Y211 O211 (Nat.le_of_ble_eq_true rfl) (rcv_own hM4.r) (Nat.le_refl _) (Nat.le_refl _) ?_
        refine m_ordersWith hM4 e4 hn12 hi hx (fun hm5 A5 R5 hM5 k5 s5 => ?_)
        rw [k4.S]
        have ih := ih hm5 A5 R5 hM5 (k4.trans k5) (s4.trans s5)
        rw [lsum, if_neg hne, ← lN_add] at ih
        simp only [r_ladd dX10_span_113, r_ls5 dX10_span_114, r_ii7 dX10_span_116 kn1, r_gotoB (tgt := 83) dX10_span_119 rfl, List.cons_append, List.nil_append, Nat.reduceAdd, Option.toList, cat_f, cat_i, cat_n, cat_r, eq_self, true_and, z0]
        try simp (disch := omega) only [E2, nI_1, nI_add, nI_leI, nI_ltI, nI_eq, nI_clamp]
        exact ih
      · have he : x = i := (nI_eq (by omega) (by omega)).mp (Classical.not_not.mp q)
        have ih := ih hm4 A4 R4 hM4 k4 s4
        rw [lsum, if_pos he, ← lN_add] at ih
        try simp (disch := omega) only [E2, nI_1, nI_add, nI_leI, nI_ltI, nI_eq, nI_clamp]
        simp only [r_ladd dX10_span_113, r_ls5 dX10_span_114, r_ii7 dX10_span_116 kn1, r_gotoB (tgt := 83) dX10_span_119 rfl, List.cons_append, List.nil_append, Nat.reduceAdd, Option.toList, cat_f, cat_i, cat_n, cat_r, eq_self, true_and, z0]
        try simp (disch := omega) only [E2, nI_1, nI_add, nI_leI, nI_ltI, nI_eq, nI_clamp]
        exact ih
  · refine r_iv2 dX10_span_63 M10_256 Y203 O203 (Nat.le_of_ble_eq_true rfl) (rcv_own hM2.r) (Nat.le_refl _) (Nat.le_refl _) ?_
    refine m_underOf hM2 hn hn12 (by omega) ?_
    rw [show acc (fun o => bt (A2 13 o) i = true) n = acc (fun o => bt (cl (A2 0) n o) i = true) n from acc_ext (fun o ho => by rw [l2 o ho])]
    rw [if_neg w0, if_pos (Classical.not_not.mp w1)] at hQ
    simp only [List.cons_append, List.nil_append, Nat.reduceAdd, Option.toList, z0]
    refine r_ist1 dX10_span_66 M10_224 Y263 (Nat.le_of_ble_eq_true rfl) (Nat.le_refl _) (Nat.le_refl _) ?_
    refine c_bitCount ?_
    simp only [r_isub dX10_span_69, r_i2l dX10_span_70, r_lret dX10_span_71 (Nat.zero_le _) (Nat.zero_le _), List.cons_append, List.nil_append, Nat.reduceAdd, Option.toList, z0]
    exact hQ hm2 _ A2 R hM2 (KM.rf.u4.trans k2) (s1.trans s2)
  · refine r_ist1 dX10_span_43 M10_224 Y263 (Nat.le_of_ble_eq_true rfl) (Nat.le_refl _) (Nat.le_refl _) ?_
    refine c_bitCount ?_
    rw [if_pos (Classical.not_not.mp w0)] at hQ
    simp only [r_i2l dX10_span_46, r_lret dX10_span_47 (Nat.zero_le _) (Nat.zero_le _), List.cons_append, List.nil_append, Nat.reduceAdd, Option.toList, z0]
    exact hQ hm2 _ A2 R hM2 (KM.rf.u4.trans k2) (s1.trans s2)
end M20
