section M10
variable {X : HM} {EV : Nat → Value} {d : Nat} {hm : HM} {hs : Nat} {Q : QT} {m n : Nat} {u : Nat → Int32} {A : Nat → Nat → Int32} {R : Nat → Int64} {w h : Nat}
theorem m_isOnPage {x y : Int32} (hM : MO hm m u A R) (hw : A 0 0 = nI w) (hw24 : w ≤ 24) (hh : A 0 1 = nI h) (hh12 : h ≤ 12) (hQ : Q (some (.int (if (0 ≤ x ∧ x < nI w) ∧ (0 ≤ y ∧ y < nI h) then 1 else 0))) hm hs) : CC X EV (d + 2) 172 [.ref m, .int x, .int y] hm hs Q := by
  have hQ := zq hQ
  refine c_of (ls2 := [.ref m, .int x, .int y]) Y172 (Nat.le_of_ble_eq_true rfl) rfl I172 ?_
  simp only [r_il1 dX10_isOnPage_0, r_i2l dX10_isOnPage_1, r_lconst dX10_isOnPage_2 kl0, r_al0 dX10_isOnPage_3, r_getf dX10_isOnPage_4 F10_13, r_iconst dX10_isOnPage_7 ki0, r_iald dX10_isOnPage_8, r_iconst dX10_isOnPage_9 ki1, r_isub dX10_isOnPage_10, r_i2l dX10_isOnPage_11, List.cons_append, List.nil_append, Nat.reduceAdd, Option.toList, aI_ok, g10_0, z0, hM.r, rd_own hM.r, hM.r0, rd_own hM.r0, vs0, ck0, hw, true_and]
  refine r_ist3 dX10_isOnPage_12 M10_83 Y155 (Nat.le_of_ble_eq_true rfl) (Nat.le_refl _) (Nat.le_refl _) ?_
  rw [l0_]
  refine m_in ?_
  simp only [ltp (show w ≤ 1000 by omega)]
  simp only [r_if_eq (tgt := 40) dX10_isOnPage_15 rfl, r_il2 dX10_isOnPage_18, r_i2l dX10_isOnPage_19, r_lconst dX10_isOnPage_20 kl0, r_al0 dX10_isOnPage_21, r_getf dX10_isOnPage_22 F10_13, r_iconst dX10_isOnPage_25 ki1, r_iald dX10_isOnPage_26, r_iconst dX10_isOnPage_27 ki1, r_isub dX10_isOnPage_28, r_i2l dX10_isOnPage_29, r_iconst dX10_isOnPage_40 ki0, r_zret0 dX10_isOnPage_41 (Nat.zero_le _) (Nat.zero_le _), r_zret1 dX10_isOnPage_41 (Nat.zero_le _) (Nat.zero_le _), r_zretc dX10_isOnPage_41 (Nat.zero_le _) (Nat.zero_le _), List.cons_append, List.nil_append, Nat.reduceAdd, Option.toList, aI_ok, g10_0, z0, hM.r, rd_own hM.r, hM.r0, rd_own hM.r0, vs1, ck1, hh, true_and]
  refine ⟨fun k => hQ.2 (fun z => k z.1), fun k => ?_⟩
  refine r_ist3 dX10_isOnPage_30 M10_83 Y155 (Nat.le_of_ble_eq_true rfl) (Nat.le_refl _) (Nat.le_refl _) ?_
  rw [l0_]
  refine m_in ?_
  simp only [ltp (show h ≤ 1000 by omega)]
  simp only [r_if_eq (tgt := 40) dX10_isOnPage_33 rfl, r_iconst dX10_isOnPage_36 ki1, r_goto (tgt := 41) dX10_isOnPage_37 rfl, r_iconst dX10_isOnPage_40 ki0, r_zret0 dX10_isOnPage_41 (Nat.zero_le _) (Nat.zero_le _), r_zret1 dX10_isOnPage_41 (Nat.zero_le _) (Nat.zero_le _), r_zretc dX10_isOnPage_41 (Nat.zero_le _) (Nat.zero_le _), List.cons_append, List.nil_append, Nat.reduceAdd, Option.toList, z0]
  exact ⟨fun k2 => hQ.2 (fun z => k2 z.2), fun k2 => hQ.1 ⟨Classical.not_not.mp k, Classical.not_not.mp k2⟩⟩
theorem m_top {x y : Int32} {L : Nat → Nat} (hM : MO hm m u A R) (hn : A 0 2 = nI n) (hn12 : n ≤ 12) (hw : A 0 0 = nI w) (hw24 : w ≤ 24) (hh : A 0 1 = nI h) (hh12 : h ≤ 12) (hL : ∀ k, k < n → A 0 (7 + 4 * k + 3) = nI (L k) ∧ L k ≤ 9)
    (h0 : ¬ ((0 ≤ x ∧ x < nI w) ∧ (0 ≤ y ∧ y < nI h)) → ∀ hm', MO hm' m (upd u 4 0) A R → sm m (m + 16) hm hm' → Q (some (.int (-2))) hm' hs)
    (h1 : ((0 ≤ x ∧ x < nI w) ∧ (0 ≤ y ∧ y < nI h)) → ∀ hm' u' f, MO hm' m u' (va_up (va_up A 13 (clo (A 0) (A 13) n)) 14 f) R → (∀ k, k ≠ 4 → k ≠ 15 → k ≠ 20 → u' k = u k) → sm m (m + 16) hm hm' → Q (some (.int (fst1 (fun k => bt (thr (A 0) L x y (-1) n) k = true ∧ thr (A 0) L x y (-1) n &&& (clo (A 0) (A 13) n k ^^^ (-1)) = sb k) n))) hm' hs) : CC X EV (d + 5) 219 [.ref m, .int x, .int y] hm hs Q := by
  have hM1 := hM.o (upd u 4 0)
  have s1 : sm m (m + 16) hm (im_up hm m (.inr (10, fs_MO m (upd u 4 0)))) := sm.rf.up (by omega)
  refine c_of (ls2 := [.ref m, .int x, .int y]) Y219 (Nat.le_of_ble_eq_true rfl) rfl I219 ?_
  simp (disch := first | omega | (simp only [List.length_cons, List.length_nil]; omega)) only [r_al0 dX10_top_0, r_iconst dX10_top_1 ki0, r_putf dX10_top_2 F10_1, r_al0 dX10_top_5, r_il1 dX10_top_6, r_il2 dX10_top_7, List.cons_append, List.nil_append, Nat.reduceAdd, Option.toList, fit_i, ft10_4, p10_4, pk_un, pk_us, rd_up_eq, rd_up_ne, true_and, up_eq, up_ne, up_up, z0, hM.r, rd_own hM.r, hM.r, rd_own hM.r]
  generalize im_up hm m (.inr (10, fs_MO m (upd u 4 0))) = hm1 at hM1 s1 ⊢
  refine r_iv3 dX10_top_8 M10_165 Y172 O172 (Nat.le_of_ble_eq_true rfl) (rcv_own hM1.r) (Nat.le_refl _) (Nat.le_refl _) ?_
  refine m_isOnPage hM1 hw hw24 hh hh12 ?_
  simp only [r_if_ne (tgt := 17) dX10_top_11 rfl, r_bipush dX10_top_14 kbm2, r_iret dX10_top_16 (Nat.zero_le _) (Nat.zero_le _), r_al0 dX10_top_17, List.cons_append, List.nil_append, Nat.reduceAdd, Option.toList, z0]
  refine ⟨fun k => ?_, fun k => h0 (Classical.not_not.mp k) _ hM1 s1⟩
  have h1 := h1 (Classical.not_not.mp k)
  refine r_iv1 dX10_top_18 M10_221 Y191 O191 (Nat.le_of_ble_eq_true rfl) (rcv_own hM1.r) (Nat.le_refl _) (Nat.le_refl _) ?_
  refine m_lays hM1 (n := n) hn hn12 (fun hm2 f hM2 g1 s2 => ?_)
  simp only [r_al0 dX10_top_21, r_il1 dX10_top_22, r_il2 dX10_top_23, r_iconst dX10_top_24 kim1, List.cons_append, List.nil_append, Nat.reduceAdd, Option.toList, z0]
  refine r_iv4 dX10_top_25 M10_276 Y217 O217 (Nat.le_of_ble_eq_true rfl) (rcv_own hM2.r) (Nat.le_refl _) (Nat.le_refl _) ?_
  refine m_topOf hM2 (n := n) (L := L) hn hn12 hL (fun hm3 hM3 s3 => ?_)
  simp only [r_iret dX10_top_28 (Nat.zero_le _) (Nat.zero_le _), List.cons_append, List.nil_append, Nat.reduceAdd, Option.toList, z0]
  exact h1 hm3 _ f hM3 (fun k q4 q15 q20 => by rw [pk_un q20, pk_un q15, pk_un q4]) ((s1.trans s2).trans s3)
end M10
