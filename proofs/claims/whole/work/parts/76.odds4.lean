theorem WS.wt {S : Nat → Int32} {nl np nw nr : Nat} (h : WS S nl np nw nr) : WT (sV S 6) nl := ⟨h.1.2, h.2.2.2.2.2.2⟩
/-- a place of a run has no other run -/
def DJ (S : Nat → Int32) (nr : Nat) : Prop := ∀ r q, r < nr → runP S q r → runM S nr q = nI r
theorem low_in {A : Nat → Nat → Int32} {F : Nat → Int32} {r f l q x t : Nat} (hx : wfP A F r f l x) (ht : t < 32) (et : A 11 (6 * x + (q - f)) = nI t) : ∀ k, x < k → bt (lowv A F r f l q k) t = true := by
  intro k
  induction k with
  | zero => intro h; omega
  | succ k ih =>
    intro h
    unfold lowv
    by_cases e : x = k
    · subst e
      rw [if_pos hx, b_or, et]
      show (_ || bt (sb t) t) = true
      rw [b_sb ht ht, decide_eq_true rfl, Bool.or_true]
    · have := ih (by omega)
      split
      · rw [b_or, this]; rfl
      · exact this
/-- a letter of a word that fits is sure -/
theorem sur_in {S F : Nat → Int32} {nl np nw nr r f l x i : Nat} (hW : WS S nl np nw nr) (hD : DJ S nr) (hr : r < nr) (hx : x < nw) (ef : S (175 + 2 * r) = nI f) (el : S (175 + 2 * r + 1) = nI l) (hf31 : f < 2 ^ 31) (hl6 : l ≤ 6) (hf : wfP (sV S) F r f l x) (hi : i < l) : bt (surM S F nw nr (f + i)) (sV S 11 (6 * x + i)).toNatClampNeg = true := by
  have hr4 := hW.2.2.2.1.2
  have hl10 := hW.1.2
  have hrp : runP S (f + i) r := by unfold runP; rw [ef, el, nI_clamp hf31, nI_clamp (by omega)]; omega
  have hrm := hD r (f + i) hr hrp
  unfold surM
  rw [hrm, if_neg (nI_nm1 (by omega)), nI_clamp (by omega)]
  unfold surR
  rw [ef, el, nI_clamp hf31, nI_clamp (by omega)]
  obtain ⟨t, ht, et⟩ := wfP_lt (F := F) hW hx el hl6 hf.1 i hi
  have ev : sV S 11 (6 * x + i) = nI t := (sV11 (by omega)).trans et
  rw [ev, nI_clamp (by omega)]
  exact low_in hf (by omega) (by rw [show f + i - f = i by omega]; exact ev) nw hx
theorem oddB_ext {W W' : Nat → Int32} {set : Int32} {nl k : Nat} (h : ∀ k, k < nl → W k = W' k) (hk : k < nl) : oddB W set nl k = oddB W' set nl k := by
  have e : ∀ n, n ≤ nl → totv W set n = totv W' set n := by
    intro n
    induction n with
    | zero => intro _; rfl
    | succ n ih => intro hn; unfold totv; rw [ih (by omega), h n (by omega)]
  unfold oddB
  rw [h k hk, e nl (Nat.le_refl nl)]
theorem lkB_ext {W W' G G' : Nat → Int32} {nl f l : Nat} {lt lt' : Nat → Nat} (h : ∀ k, k < nl → W k = W' k) (hG : ∀ i, i < l → G (f + i) = G' (f + i)) (hl : ∀ i, i < l → lt i = lt' i) (hlt : ∀ i, i < l → lt i < nl) : ∀ i, i ≤ l → lkB W nl G f lt i = lkB W' nl G' f lt' i := by
  intro i
  induction i with
  | zero => intro _; rfl
  | succ i ih =>
    intro hi
    unfold lkB
    rw [ih (by omega), oddB_ext h (hlt i (by omega)), hG i (by omega), hl i (by omega)]
section O4
variable {X : HM} {EV : Nat → Value} {d : Nat} {hm : HM} {hs : Nat} {Q : QT} {m n : Nat} {u : Nat → Int32} {A : Nat → Nat → Int32} {R : Nat → Int64} {w h nl np nw nr : Nat} {L : Nat → Nat}
theorem m_oddsOf {q k : Nat} {S F : Nat → Int32} (hM : MO hm m u A R) (eS : A 0 = S) (hW : WS S nl np nw nr) (hF : ∀ q, q < np → A 21 q = F q) (hq : q < np) (hk : k < nl)
    (hQ : Q (some (.int (nI (oddB (sV S 6) (surM S F nw nr q) nl k)))) hm hs) : CC X EV (d + 4) 240 [.ref m, .int (nI q), .int (nI k)] hm hs Q := by
  have hl : A 0 3 = nI nl := by rw [eS]; exact hW.1.1
  have hl10 := hW.1.2
  refine c_of (ls2 := [.ref m, .int (nI q), .int (nI k), .null, .null, .null]) Y240 (Nat.le_of_ble_eq_true rfl) rfl I240 ?_
  simp only [r_al0 dX10_oddsOf_0, r_il1 dX10_oddsOf_1, List.cons_append, List.nil_append, Nat.reduceAdd, Option.toList, z0]
  refine r_iv2 dX10_oddsOf_2 M10_298 Y229 O229 (Nat.le_of_ble_eq_true rfl) (rcv_own hM.r) (Nat.le_refl _) (Nat.le_refl _) ?_
  refine m_sf hM eS hW hF hq ?_
  generalize surM S F nw nr q = T at hQ ⊢
  simp only [r_is3 dX10_oddsOf_5, r_iconst dX10_oddsOf_6 ki0, r_is4 dX10_oddsOf_7, r_iconst dX10_oddsOf_9 ki0, r_is5 dX10_oddsOf_10, List.cons_append, List.nil_append, Nat.reduceAdd, Option.toList, cat_f, cat_i, cat_n, cat_r, eq_self, true_and, z0]
  have es6 : ∀ x, A 0 (207 + x) = sV S 6 x := fun x => by rw [eS]; rfl
  refine up_loop nl (fun x => E1 X EV (d + 3) 10 0 0 (some .int) false cX10_oddsOf Q 12 [.ref m, .int (nI q), .int (nI k), .int T, .int (totv (sV S 6) T x), .int (nI x)] [] 0 0 hm hs) ?_ ?_ 0 (by omega)
  · skip
    simp only [r_il5 dX10_oddsOf_12, r_al0 dX10_oddsOf_14, r_getf dX10_oddsOf_15 F10_13, r_iconst dX10_oddsOf_18 ki3, r_iald dX10_oddsOf_19, r_ic_ge (tgt := 58) dX10_oddsOf_20 rfl, r_il4 dX10_oddsOf_23, r_il3 dX10_oddsOf_25, r_il5 dX10_oddsOf_26, r_il3 dX10_oddsOf_58, r_il2 dX10_oddsOf_59, List.cons_append, List.nil_append, Nat.reduceAdd, Option.toList, aI_ok, g10_0, z0, hM.r, rd_own hM.r, hM.r0, rd_own hM.r0, vs3, ck3, hl, true_and]
    refine ⟨fun _ => ?_, fun z => absurd (Int32.le_refl _) z⟩
    refine r_ist2 dX10_oddsOf_60 M10_178 Y156 (Nat.le_of_ble_eq_true rfl) (Nat.le_refl _) (Nat.le_refl _) ?_
    refine m_has (by omega) ?_
    by_cases hb : bt T k = true
    · rw [if_pos hb]
      obtain ⟨v, t, a1, a2, a3, a4, a5, a6, a7, a8, a9⟩ := odd_s hW.wt hk hb
      rw [a6] at hQ
      rw [a5]
      simp only [r_if_eq (tgt := 84) dX10_oddsOf_63 rfl, r_al0 dX10_oddsOf_66, r_getf dX10_oddsOf_67 F10_13, r_sipush dX10_oddsOf_70 ks207, r_il2 dX10_oddsOf_73, r_iadd dX10_oddsOf_74, r_iald dX10_oddsOf_75, r_il4 dX10_oddsOf_76, r_iconst dX10_oddsOf_84 ki0, r_iret dX10_oddsOf_85 (Nat.zero_le _) (Nat.zero_le _), List.cons_append, List.nil_append, Nat.reduceAdd, Option.toList, aI_ok, g10_0, z0, hM.r, rd_own hM.r, hM.r0, rd_own hM.r0, s207, nI_clamp (show 207 + k < 2 ^ 31 by omega), es6, a4]
      refine ⟨fun z => absurd z (by decide), fun _ => ⟨vp_in_nI (by omega) (by omega), ?_⟩⟩
      refine r_ist2 dX10_oddsOf_78 M10_313 Y232 (Nat.le_of_ble_eq_true rfl) (Nat.le_refl _) (Nat.le_refl _) ?_
      refine m_nearest a1 a2 (by omega) ?_
      simp only [r_goto (tgt := 85) dX10_oddsOf_81 rfl, r_iret dX10_oddsOf_85 (Nat.zero_le _) (Nat.zero_le _), List.cons_append, List.nil_append, Nat.reduceAdd, Option.toList, z0]
      exact hQ
    · rw [if_neg hb]
      have e0 : oddB (sV S 6) T nl k = 0 := by unfold oddB; rw [if_neg hb]
      rw [e0] at hQ
      simp only [r_if_eq (tgt := 84) dX10_oddsOf_63 rfl, r_al0 dX10_oddsOf_66, r_getf dX10_oddsOf_67 F10_13, r_sipush dX10_oddsOf_70 ks207, r_il2 dX10_oddsOf_73, r_iadd dX10_oddsOf_74, r_iald dX10_oddsOf_75, r_il4 dX10_oddsOf_76, r_iconst dX10_oddsOf_84 ki0, r_iret dX10_oddsOf_85 (Nat.zero_le _) (Nat.zero_le _), List.cons_append, List.nil_append, Nat.reduceAdd, Option.toList, aI_ok, g10_0, z0, hM.r, rd_own hM.r, hM.r0, rd_own hM.r0]
      exact ⟨fun _ => hQ, fun z => absurd trivial z⟩
  · intro x hx ih
    simp only [r_il5 dX10_oddsOf_12, r_al0 dX10_oddsOf_14, r_getf dX10_oddsOf_15 F10_13, r_iconst dX10_oddsOf_18 ki3, r_iald dX10_oddsOf_19, r_ic_ge (tgt := 58) dX10_oddsOf_20 rfl, r_il4 dX10_oddsOf_23, r_il3 dX10_oddsOf_25, r_il5 dX10_oddsOf_26, r_il3 dX10_oddsOf_58, r_il2 dX10_oddsOf_59, List.cons_append, List.nil_append, Nat.reduceAdd, Option.toList, aI_ok, g10_0, z0, hM.r, rd_own hM.r, hM.r0, rd_own hM.r0, vs3, ck3, hl, true_and]
    refine ⟨fun z => absurd ((nI_leI (by omega) (by omega)).mp z) (by omega), fun _ => ?_⟩
    refine r_ist2 dX10_oddsOf_28 M10_178 Y156 (Nat.le_of_ble_eq_true rfl) (Nat.le_refl _) (Nat.le_refl _) ?_
    refine m_has (by omega) ?_
    unfold totv at ih
    by_cases hb : bt T x = true
    · rw [if_pos hb] at ih ⊢
      simp only [r_if_eq (tgt := 48) dX10_oddsOf_31 rfl, r_al0 dX10_oddsOf_34, r_getf dX10_oddsOf_35 F10_13, r_sipush dX10_oddsOf_38 ks207, r_il5 dX10_oddsOf_41, r_iadd dX10_oddsOf_43, r_iald dX10_oddsOf_44, r_goto (tgt := 49) dX10_oddsOf_45 rfl, r_iconst dX10_oddsOf_48 ki0, r_iadd dX10_oddsOf_49, r_is4 dX10_oddsOf_50, r_ii5 dX10_oddsOf_52 kn1, r_gotoB (tgt := 12) dX10_oddsOf_55 rfl, List.cons_append, List.nil_append, Nat.reduceAdd, Option.toList, aI_ok, cat_f, cat_i, cat_n, cat_r, eq_self, g10_0, true_and, z0, hM.r, rd_own hM.r, hM.r0, rd_own hM.r0, s207, nI_clamp (show 207 + x < 2 ^ 31 by omega), es6]
      refine ⟨fun z => absurd z (by decide), fun _ => ⟨vp_in_nI (by omega) (by omega), ?_⟩⟩
      try simp (disch := omega) only [E2, nI_1, nI_add, nI_leI, nI_ltI, nI_eq, nI_clamp]
      exact ih
    · rw [if_neg hb] at ih ⊢
      simp only [r_if_eq (tgt := 48) dX10_oddsOf_31 rfl, r_al0 dX10_oddsOf_34, r_getf dX10_oddsOf_35 F10_13, r_sipush dX10_oddsOf_38 ks207, r_il5 dX10_oddsOf_41, r_iadd dX10_oddsOf_43, r_iald dX10_oddsOf_44, r_goto (tgt := 49) dX10_oddsOf_45 rfl, r_iconst dX10_oddsOf_48 ki0, r_iadd dX10_oddsOf_49, r_is4 dX10_oddsOf_50, r_ii5 dX10_oddsOf_52 kn1, r_gotoB (tgt := 12) dX10_oddsOf_55 rfl, List.cons_append, List.nil_append, Nat.reduceAdd, Option.toList, aI_ok, cat_f, cat_i, cat_n, cat_r, eq_self, g10_0, true_and, z0, hM.r, rd_own hM.r, hM.r0, rd_own hM.r0]
      refine ⟨fun _ => ?_, fun z => absurd trivial z⟩
      try simp (disch := omega) only [E2, nI_1, nI_add, nI_leI, nI_ltI, nI_eq, nI_clamp]
      rw [show totv (sV S 6) T x + 0 = totv (sV S 6) T x from Int32.add_zero _]
      exact ih
theorem m_odds {q k : Int32} (hM : MO hm m u A R) (hZ : MZ (A 0) n w h nl np nw nr L)
    (h0 : ¬ ((0 ≤ q ∧ q < nI np) ∧ (0 ≤ k ∧ k < nI nl)) → ∀ hm' u' A', MO hm' m u' A' R → KM u u' A A' → sm m (m + 16) hm hm' → Q (some (.int (-2))) hm' hs)
    (hQ : ∀ i j, i < np → j < nl → q = nI i → k = nI j → ∀ hm' u' A', MO hm' m u' A' R → KM u u' A A' → sm m (m + 16) hm hm' → Q (some (.int (nI (oddB (sV (A 0) 6) (surM (A 0) (ftM (A 0) L n nl) nw nr i) nl j)))) hm' hs) : CC X EV (d + 9) 233 [.ref m, .int q, .int k] hm hs Q := by
  have hW := hZ.2.2.2.2
  have hp8 := hW.2.1.2
  have hl10 := hW.1.2
  have hM1 := hM.o (upd u 4 0)
  have s1 : sm m (m + 16) hm (im_up hm m (.inr (10, fs_MO m (upd u 4 0)))) := sm.rf.up (by omega)
  refine c_of (ls2 := [.ref m, .int q, .int k]) Y233 (Nat.le_of_ble_eq_true rfl) rfl I233 ?_
  simp (disch := first | omega | (simp only [List.length_cons, List.length_nil]; omega)) only [r_al0 dX10_odds_0, r_iconst dX10_odds_1 ki0, r_putf dX10_odds_2 F10_1, r_al0 dX10_odds_5, r_il1 dX10_odds_6, List.cons_append, List.nil_append, Nat.reduceAdd, Option.toList, fit_i, ft10_4, p10_4, pk_un, pk_us, rd_up_eq, rd_up_ne, true_and, up_eq, up_ne, up_up, z0, hM.r, rd_own hM.r, hM.r, rd_own hM.r]
  generalize im_up hm m (.inr (10, fs_MO m (upd u 4 0))) = hm1 at hM1 s1 ⊢
  refine r_iv2 dX10_odds_7 M10_283 Y221 O221 (Nat.le_of_ble_eq_true rfl) (rcv_own hM1.r) (Nat.le_refl _) (Nat.le_refl _) ?_
  refine m_isPlace hM1 hW.2.1.1 (by omega) ?_
  simp only [r_if_eq (tgt := 21) dX10_odds_10 rfl, r_al0 dX10_odds_13, r_il2 dX10_odds_14, r_bipush dX10_odds_21 kbm2, r_iret dX10_odds_23 (Nat.zero_le _) (Nat.zero_le _), List.cons_append, List.nil_append, Nat.reduceAdd, Option.toList, z0]
  refine ⟨fun g => h0 (fun z => g z.1) _ _ _ hM1 KM.rf.u4 s1, fun g => ?_⟩
  refine r_iv2 dX10_odds_15 M10_240 Y231 O231 (Nat.le_of_ble_eq_true rfl) (rcv_own hM1.r) (Nat.le_refl _) (Nat.le_refl _) ?_
  refine m_isLetterAt hM1 hW.1.1 (by omega) ?_
  simp only [r_if_ne (tgt := 24) dX10_odds_18 rfl, r_bipush dX10_odds_21 kbm2, r_iret dX10_odds_23 (Nat.zero_le _) (Nat.zero_le _), r_al0 dX10_odds_24, List.cons_append, List.nil_append, Nat.reduceAdd, Option.toList, z0]
  refine ⟨fun g2 => ?_, fun g2 => h0 (fun z => Classical.not_not.mp g2 z.2) _ _ _ hM1 KM.rf.u4 s1⟩
  obtain ⟨i, hi, rfl⟩ := ix (by omega) (Classical.not_not.mp g)
  obtain ⟨j, hj, rfl⟩ := ix (by omega) (Classical.not_not.mp g2)
  refine r_iv1 dX10_odds_25 M10_295 Y227 O227 (Nat.le_of_ble_eq_true rfl) (rcv_own hM1.r) (Nat.le_refl _) (Nat.le_refl _) ?_
  refine m_lf hM1 hZ (fun hm2 u2 A2 hM2 k2 l2 hF s2 => ?_)
  simp only [r_al0 dX10_odds_28, r_il1 dX10_odds_29, r_il2 dX10_odds_30, List.cons_append, List.nil_append, Nat.reduceAdd, Option.toList, z0]
  refine r_iv3 dX10_odds_31 M10_301 Y240 O240 (Nat.le_of_ble_eq_true rfl) (rcv_own hM2.r) (Nat.le_refl _) (Nat.le_refl _) ?_
  refine m_oddsOf hM2 k2.S hW hF hi hj ?_
  simp only [r_iret dX10_odds_34 (Nat.zero_le _) (Nat.zero_le _), List.cons_append, List.nil_append, Nat.reduceAdd, Option.toList, z0]
  exact hQ i j hi hj rfl rfl hm2 u2 A2 hM2 (KM.rf.u4.trans k2) (s1.trans s2)
theorem m_likelihood {r k : Int32} (hM : MO hm m u A R) (hZ : MZ (A 0) n w h nl np nw nr L) (hD : DJ (A 0) nr)
    (h0 : ¬ ((0 ≤ r ∧ r < nI nr) ∧ (0 ≤ k ∧ k < nI nw)) → ∀ hm' u' A', MO hm' m u' A' R → KM u u' A A' → sm m (m + 16) hm hm' → Q (some (.int (-2))) hm' hs)
    (hQ : ∀ i j f l, i < nr → j < nw → r = nI i → k = nI j → A 0 (175 + 2 * i) = nI f → A 0 (175 + 2 * i + 1) = nI l → f + l ≤ np → l ≤ 6 → ∀ hm' u' A', MO hm' m u' A' R → KM u u' A A' → sm m (m + 16) hm hm' → 
      Q (some (.int (if wfP (sV (A 0)) (ftM (A 0) L n nl) i f l j then nI (lkB (sV (A 0) 6) nl (surM (A 0) (ftM (A 0) L n nl) nw nr) f (fun x => (sV (A 0) 11 (6 * j + x)).toNatClampNeg) l) else 0))) hm' hs) : CC X EV (d + 9) 241 [.ref m, .int r, .int k] hm hs Q := by
  have hW := hZ.2.2.2.2
  have hp8 := hW.2.1.2
  have hl10 := hW.1.2
  have hr4 := hW.2.2.2.1.2
  have hw := hW.2.2.1.1
  have hw12 := hW.2.2.1.2
  have hM1 := hM.o (upd u 4 0)
  have s1 : sm m (m + 16) hm (im_up hm m (.inr (10, fs_MO m (upd u 4 0)))) := sm.rf.up (by omega)
  refine c_of (ls2 := [.ref m, .int r, .int k, .null, .null]) Y241 (Nat.le_of_ble_eq_true rfl) rfl I241 ?_
  simp (disch := first | omega | (simp only [List.length_cons, List.length_nil]; omega)) only [r_al0 dX10_likelihood_0, r_iconst dX10_likelihood_1 ki0, r_putf dX10_likelihood_2 F10_1, r_al0 dX10_likelihood_5, r_il1 dX10_likelihood_6, List.cons_append, List.nil_append, Nat.reduceAdd, Option.toList, fit_i, ft10_4, p10_4, pk_un, pk_us, rd_up_eq, rd_up_ne, true_and, up_eq, up_ne, up_up, z0, hM.r, rd_own hM.r, hM.r, rd_own hM.r]
  generalize im_up hm m (.inr (10, fs_MO m (upd u 4 0))) = hm1 at hM1 s1 ⊢
  refine r_iv2 dX10_likelihood_7 M10_304 Y235 O235 (Nat.le_of_ble_eq_true rfl) (rcv_own hM1.r) (Nat.le_refl _) (Nat.le_refl _) ?_
  refine m_isRun hM1 hW.2.2.2.1.1 (by omega) ?_
  simp only [r_if_eq (tgt := 31) dX10_likelihood_10 rfl, r_il2 dX10_likelihood_13, r_i2l dX10_likelihood_14, r_lconst dX10_likelihood_15 kl0, r_al0 dX10_likelihood_16, r_getf dX10_likelihood_17 F10_13, r_iconst dX10_likelihood_20 ki5, r_iald dX10_likelihood_21, r_iconst dX10_likelihood_22 ki1, r_isub dX10_likelihood_23, r_i2l dX10_likelihood_24, r_bipush dX10_likelihood_31 kbm2, r_iret dX10_likelihood_33 (Nat.zero_le _) (Nat.zero_le _), List.cons_append, List.nil_append, Nat.reduceAdd, Option.toList, aI_ok, g10_0, z0, hM1.r, rd_own hM1.r, hM1.r0, rd_own hM1.r0, vs5, ck5, hw, true_and]
  refine ⟨fun g => h0 (fun z => g z.1) _ _ _ hM1 KM.rf.u4 s1, fun g => ?_⟩
  refine r_ist3 dX10_likelihood_25 M10_83 Y155 (Nat.le_of_ble_eq_true rfl) (Nat.le_refl _) (Nat.le_refl _) ?_
  rw [l0_]
  refine m_in ?_
  simp only [ltp (show nw ≤ 1000 by omega)]
  simp only [r_if_ne (tgt := 34) dX10_likelihood_28 rfl, r_bipush dX10_likelihood_31 kbm2, r_iret dX10_likelihood_33 (Nat.zero_le _) (Nat.zero_le _), r_al0 dX10_likelihood_34, List.cons_append, List.nil_append, Nat.reduceAdd, Option.toList, z0]
  refine ⟨fun g2 => ?_, fun g2 => h0 (fun z => Classical.not_not.mp g2 z.2) _ _ _ hM1 KM.rf.u4 s1⟩
  obtain ⟨i, hi, rfl⟩ := ix (by omega) (Classical.not_not.mp g)
  obtain ⟨j, hj, rfl⟩ := ix (by omega) (Classical.not_not.mp g2)
  obtain ⟨f, l, ef, el, g1, g2', g3⟩ := hW.2.2.2.2.1 i hi
  refine r_iv1 dX10_likelihood_35 M10_295 Y227 O227 (Nat.le_of_ble_eq_true rfl) (rcv_own hM1.r) (Nat.le_refl _) (Nat.le_refl _) ?_
  refine m_lf hM1 hZ (fun hm2 u2 A2 hM2 k2 l2 hF s2 => ?_)
  have hQ := hQ i j f l hi hj rfl rfl ef el g1 g3 hm2 u2 A2 hM2 (KM.rf.u4.trans k2) (s1.trans s2)
  have e0 : A2 0 = A 0 := k2.S
  have hlt := wfP_lt (F := A2 21) hW hj el g3
  have hwx : wfP (sV (A 0)) (A2 21) i f l j ↔ wfP (sV (A 0)) (ftM (A 0) L n nl) i f l j := wfP_ext rfl rfl (fun _ _ _ => rfl) (fun x hx => hF _ (by omega))
  simp only [r_al0 dX10_likelihood_38, r_il2 dX10_likelihood_39, r_il1 dX10_likelihood_40, List.cons_append, List.nil_append, Nat.reduceAdd, Option.toList, z0]
  refine r_iv3 dX10_likelihood_41 M10_292 Y228 O228 (Nat.le_of_ble_eq_true rfl) (rcv_own hM2.r) (Nat.le_refl _) (Nat.le_refl _) ?_
  refine m_fitsRun hM2 (by omega) (by omega) (by rw [e0]; exact ef) (by rw [e0]; exact el) (by omega) g3 (by rw [e0]; exact hlt) ?_
  rw [e0]
  by_cases hwf : wfP (sV (A 0)) (A2 21) i f l j
  · rw [if_pos hwf]
    have hwf2 := hwx.mp hwf
    rw [if_pos hwf2] at hQ
    have hlt := hlt hwf.1
    have ew : A2 0 (91 + 7 * j) = nI l := by rw [e0]; exact hwf.1.trans el
    obtain ⟨LT, eLT⟩ : ∃ LT : Nat → Nat, LT = fun x => (sV (A 0) 11 (6 * j + x)).toNatClampNeg := ⟨_, rfl⟩
    rw [← eLT] at hQ
    have hLT : ∀ x, x < l → ∃ t, t < nl ∧ A 0 (91 + 7 * j + 1 + x) = nI t ∧ LT x = t := fun x hx => by
      obtain ⟨l', h1, h2, h3, h4⟩ := hW.2.2.2.2.2.1 j hj
      have e2 : A 0 (91 + 7 * j) = A 0 (175 + 2 * i + 1) := hwf.1
      rw [el, h3, nI_eq (by omega) (by omega)] at e2
      obtain ⟨t, ht, et⟩ := h4 x (by omega)
      exact ⟨t, ht, et, by rw [eLT]; show (sV (A 0) 11 (6 * j + x)).toNatClampNeg = t; rw [sV11 (by omega), et, nI_clamp (by omega)]⟩
    have hltN : ∀ x, x < l → LT x < nl := fun x hx => by obtain ⟨t, a, b, c⟩ := hLT x hx; omega
    have hsu : ∀ x, x < l → bt (surM (A 0) (ftM (A 0) L n nl) nw nr (f + x)) (LT x) = true := fun x hx => by
      rw [eLT]; exact sur_in hW hD hi hj ef el (by omega) g3 hwf2 hx
    simp only [r_if_ne (tgt := 49) dX10_likelihood_44 rfl, r_iconst dX10_likelihood_47 ki0, r_iret dX10_likelihood_48 (Nat.zero_le _) (Nat.zero_le _), r_ldcw dX10_likelihood_49 K10_316, r_is3 dX10_likelihood_52, r_iconst dX10_likelihood_53 ki0, r_is4 dX10_likelihood_54, List.cons_append, List.nil_append, Nat.reduceAdd, Option.toList, cat_f, cat_i, cat_n, cat_r, eq_self, true_and, z0]
    refine ⟨fun _ => ?_, fun z => absurd (Classical.not_not.mp z) (by decide)⟩
    refine up_loop l (fun x => E1 X EV (d + 8) 10 0 0 (some .int) false cX10_likelihood Q 56 [.ref m, .int (nI i), .int (nI j), .int (nI (lkB (sV (A 0) 6) nl (surM (A 0) (ftM (A 0) L n nl) nw nr) f LT x)), .int (nI x)] [] 0 0 hm2 hs) ?_ ?_ 0 (by omega)
    · skip
      simp only [r_il4 dX10_likelihood_56, r_al0 dX10_likelihood_58, r_getf dX10_likelihood_59 F10_13, r_bipush dX10_likelihood_62 kb91, r_bipush dX10_likelihood_64 kb7, r_il2 dX10_likelihood_66, r_imul dX10_likelihood_67, r_iadd dX10_likelihood_68, r_iald dX10_likelihood_69, r_ic_ge (tgt := 120) dX10_likelihood_70 rfl, r_il3 dX10_likelihood_73, r_al0 dX10_likelihood_74, r_al0 dX10_likelihood_75, r_getf dX10_likelihood_76 F10_13, r_sipush dX10_likelihood_79 ks175, r_iconst dX10_likelihood_82 ki2, r_il1 dX10_likelihood_83, r_imul dX10_likelihood_84, r_iadd dX10_likelihood_85, r_iald dX10_likelihood_86, r_il4 dX10_likelihood_87, r_iadd dX10_likelihood_89, r_al0 dX10_likelihood_90, r_getf dX10_likelihood_91 F10_13, r_bipush dX10_likelihood_94 kb91, r_bipush dX10_likelihood_96 kb7, r_il2 dX10_likelihood_98, r_imul dX10_likelihood_99, r_iadd dX10_likelihood_100, r_iconst dX10_likelihood_101 ki1, r_iadd dX10_likelihood_102, r_il4 dX10_likelihood_103, r_iadd dX10_likelihood_105, r_iald dX10_likelihood_106, r_il3 dX10_likelihood_120, r_iret dX10_likelihood_121 (Nat.zero_le _) (Nat.zero_le _), List.cons_append, List.nil_append, Nat.reduceAdd, Option.toList, aI_ok, g10_0, z0, hM2.r, rd_own hM2.r, hM2.r0, rd_own hM2.r0, s91, nI_clamp (show 91 + 7 * j < 2 ^ 31 by omega), ew]
      exact ⟨vp_in_nI (by omega) (by omega), fun _ => hQ, fun z => absurd (Int32.le_refl _) z⟩
    · intro x hx ih
      obtain ⟨t, ht, et, eL⟩ := hLT x hx
      obtain ⟨m1, m2, m3, m4, m5⟩ := lk_m hW.wt g3 hltN hsu hx
      unfold lkB at ih
      rw [eL] at m3 m4 m5 ih
      have ef2 : A2 0 (175 + 2 * i) = nI f := by rw [e0]; exact ef
      have et2 : A2 0 (91 + 7 * j + 1 + x) = nI t := by rw [e0]; exact et
      simp only [r_il4 dX10_likelihood_56, r_al0 dX10_likelihood_58, r_getf dX10_likelihood_59 F10_13, r_bipush dX10_likelihood_62 kb91, r_bipush dX10_likelihood_64 kb7, r_il2 dX10_likelihood_66, r_imul dX10_likelihood_67, r_iadd dX10_likelihood_68, r_iald dX10_likelihood_69, r_ic_ge (tgt := 120) dX10_likelihood_70 rfl, r_il3 dX10_likelihood_73, r_al0 dX10_likelihood_74, r_al0 dX10_likelihood_75, r_getf dX10_likelihood_76 F10_13, r_sipush dX10_likelihood_79 ks175, r_iconst dX10_likelihood_82 ki2, r_il1 dX10_likelihood_83, r_imul dX10_likelihood_84, r_iadd dX10_likelihood_85, r_iald dX10_likelihood_86, r_il4 dX10_likelihood_87, r_iadd dX10_likelihood_89, r_al0 dX10_likelihood_90, r_getf dX10_likelihood_91 F10_13, r_bipush dX10_likelihood_94 kb91, r_bipush dX10_likelihood_96 kb7, r_il2 dX10_likelihood_98, r_imul dX10_likelihood_99, r_iadd dX10_likelihood_100, r_iconst dX10_likelihood_101 ki1, r_iadd dX10_likelihood_102, r_il4 dX10_likelihood_103, r_iadd dX10_likelihood_105, r_iald dX10_likelihood_106, r_il3 dX10_likelihood_120, r_iret dX10_likelihood_121 (Nat.zero_le _) (Nat.zero_le _), List.cons_append, List.nil_append, Nat.reduceAdd, Option.toList, aI_ok, g10_0, z0, hM2.r, rd_own hM2.r, hM2.r0, rd_own hM2.r0, s91, s175, nI_1, nI_add, nI_clamp (show 91 + 7 * j < 2 ^ 31 by omega), nI_clamp (show 91 + 7 * j + 1 + x < 2 ^ 31 by omega), nI_clamp (show 175 + 2 * i < 2 ^ 31 by omega), ew, ef2, et2]
      refine ⟨vp_in_nI (by omega) (by omega), fun z => absurd ((nI_leI (by omega) (by omega)).mp z) (by omega), fun _ => ⟨vp_in_nI (by omega) (by omega), vp_in_nI (by omega) (by omega), ?_⟩⟩
      refine r_iv3 dX10_likelihood_107 M10_301 Y240 O240 (Nat.le_of_ble_eq_true rfl) (rcv_own hM2.r) (Nat.le_refl _) (Nat.le_refl _) ?_
      refine m_oddsOf hM2 e0 hW hF (by omega) ht ?_
      simp only [List.cons_append, List.nil_append, Nat.reduceAdd, Option.toList, z0]
      refine r_ist2 dX10_likelihood_110 M10_317 Y239 (Nat.le_of_ble_eq_true rfl) (Nat.le_refl _) (Nat.le_refl _) ?_
      refine m_timesOf m1 m2 m3 m4 m5 ?_
      simp only [r_is3 dX10_likelihood_113, r_ii4 dX10_likelihood_114 kn1, r_gotoB (tgt := 56) dX10_likelihood_117 rfl, List.cons_append, List.nil_append, Nat.reduceAdd, Option.toList, cat_f, cat_i, cat_n, cat_r, eq_self, true_and, z0]
      try simp (disch := omega) only [E2, nI_1, nI_add, nI_leI, nI_ltI, nI_eq, nI_clamp]
      exact ih
  · rw [if_neg hwf]
    rw [if_neg (fun z => hwf (hwx.mpr z))] at hQ
    simp only [r_if_ne (tgt := 49) dX10_likelihood_44 rfl, r_iconst dX10_likelihood_47 ki0, r_iret dX10_likelihood_48 (Nat.zero_le _) (Nat.zero_le _), r_ldcw dX10_likelihood_49 K10_316, r_is3 dX10_likelihood_52, r_iconst dX10_likelihood_53 ki0, r_is4 dX10_likelihood_54, List.cons_append, List.nil_append, Nat.reduceAdd, Option.toList, cat_f, cat_i, cat_n, cat_r, eq_self, true_and, z0]
    exact ⟨fun z => absurd trivial z, fun _ => hQ⟩
end O4
