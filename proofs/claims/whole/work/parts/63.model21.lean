section M21
variable {X : HM} {EV : Nat → Value} {d : Nat} {hm : HM} {hs : Nat} {Q : QT} {m n : Nat} {u : Nat → Int32} {A : Nat → Nat → Int32} {R : Nat → Int64} {w h nl np nw nr : Nat} {L : Nat → Nat}
theorem m_layStep {k e : Nat} {g : Nat → Nat} (hM : MO hm m u A R) (hn : A 0 2 = nI n) (hn12 : n ≤ 12) (hk : k < n) (hg : ∀ o, g o ≤ 12)
    (hrec : ∀ o, o < n → bt (A 0 (195 + k)) o = true → ∀ Q' : QT, Q' (some (.int (nI (g o)))) hm hs → CC X EV (e + 1) 204 [.ref m, .int (nI o)] hm hs Q')
    (hQ : Q (some (.int (nI (layS (A 0) n g k n)))) hm hs) : CC X EV (e + 2) 204 [.ref m, .int (nI k)] hm hs Q := by
  have hin := vp_in_nI (show 195 + k < 217 by omega) (by omega)
  refine c_of (ls2 := [.ref m, .int (nI k), .null, .null, .null]) Y204 (Nat.le_of_ble_eq_true rfl) rfl I204 ?_
  simp only [r_iconst dX10_layerOf_0 ki0, r_is2 dX10_layerOf_1, r_iconst dX10_layerOf_2 ki0, r_is3 dX10_layerOf_3, List.cons_append, List.nil_append, Nat.reduceAdd, Option.toList, cat_f, cat_i, cat_n, cat_r, eq_self, true_and, z0]
  suffices H : ∀ o, o ≤ n → ∀ y, E1 X EV (e + 1) 10 0 0 (some .int) false cX10_layerOf Q 4 [.ref m, .int (nI k), .int (nI (layS (A 0) n g k o)), .int (nI o), y] [] 0 0 hm hs from H 0 (by omega) _
  refine up_loop n _ ?_ ?_
  · intro y
    simp only [r_il3 dX10_layerOf_4, r_al0 dX10_layerOf_5, r_getf dX10_layerOf_6 F10_13, r_iconst dX10_layerOf_9 ki2, r_iald dX10_layerOf_10, r_ic_ge (tgt := 62) dX10_layerOf_11 rfl, r_al0 dX10_layerOf_14, r_getf dX10_layerOf_15 F10_13, r_sipush dX10_layerOf_18 ks195, r_il1 dX10_layerOf_21, r_iadd dX10_layerOf_22, r_iald dX10_layerOf_23, r_il3 dX10_layerOf_24, r_il2 dX10_layerOf_62, r_iret dX10_layerOf_63 (Nat.zero_le _) (Nat.zero_le _), List.cons_append, List.nil_append, Nat.reduceAdd, Option.toList, aI_ok, g10_0, z0, hM.r, rd_own hM.r, hM.r0, rd_own hM.r0, vs2, ck2, hn, true_and]
    exact ⟨fun _ => hQ, fun z => absurd (Int32.le_refl _) z⟩
  · intro o ho ih y
    have hb := layS_le (S := A 0) (n := n) (k := k) hg o
    have hb2 := hg o
    simp only [r_il3 dX10_layerOf_4, r_al0 dX10_layerOf_5, r_getf dX10_layerOf_6 F10_13, r_iconst dX10_layerOf_9 ki2, r_iald dX10_layerOf_10, r_ic_ge (tgt := 62) dX10_layerOf_11 rfl, r_al0 dX10_layerOf_14, r_getf dX10_layerOf_15 F10_13, r_sipush dX10_layerOf_18 ks195, r_il1 dX10_layerOf_21, r_iadd dX10_layerOf_22, r_iald dX10_layerOf_23, r_il3 dX10_layerOf_24, r_il2 dX10_layerOf_62, r_iret dX10_layerOf_63 (Nat.zero_le _) (Nat.zero_le _), List.cons_append, List.nil_append, Nat.reduceAdd, Option.toList, aI_ok, g10_0, z0, hM.r, rd_own hM.r, hM.r0, rd_own hM.r0, vs2, ck2, hn, true_and, s195, nI_clamp (show 195 + k < 2 ^ 31 by omega)]
    refine ⟨fun q => absurd ((nI_leI (by omega) (by omega)).mp q) (by omega), fun _ => ⟨hin, ?_⟩⟩
    refine r_ist2 dX10_layerOf_25 M10_178 Y156 (Nat.le_of_ble_eq_true rfl) (Nat.le_refl _) (Nat.le_refl _) ?_
    refine m_has (by omega) ?_
    simp only [r_if_ne (tgt := 34) dX10_layerOf_28 rfl, r_goto (tgt := 56) dX10_layerOf_31 rfl, r_al0 dX10_layerOf_34, r_il3 dX10_layerOf_35, r_ii3 dX10_layerOf_56 kn1, r_gotoB (tgt := 4) dX10_layerOf_59 rfl, List.cons_append, List.nil_append, Nat.reduceAdd, Option.toList, cat_f, cat_i, cat_n, cat_r, eq_self, true_and, z0]
    refine ⟨fun q => ?_, fun q => ?_⟩
    · have ih := fun y => ih y
      unfold layS at ih
      rw [if_pos (Classical.not_not.mp q)] at ih
      refine r_iv2 dX10_layerOf_36 M10_245 Y204 O204 (Nat.le_of_ble_eq_true rfl) (rcv_own hM.r) (Nat.le_refl _) (Nat.le_refl _) ?_
      refine hrec o ho (Classical.not_not.mp q) _ ?_
      simp only [r_iconst dX10_layerOf_39 ki1, r_iadd dX10_layerOf_40, r_is4 dX10_layerOf_41, r_il4 dX10_layerOf_43, r_il2 dX10_layerOf_45, r_ic_le (tgt := 54) dX10_layerOf_46 rfl, r_il4 dX10_layerOf_49, r_goto (tgt := 55) dX10_layerOf_51 rfl, r_il2 dX10_layerOf_54, r_is2 dX10_layerOf_55, r_ii3 dX10_layerOf_56 kn1, r_gotoB (tgt := 4) dX10_layerOf_59 rfl, List.cons_append, List.nil_append, Nat.reduceAdd, Option.toList, cat_f, cat_i, cat_n, cat_r, eq_self, true_and, z0]
      try simp (disch := omega) only [E2, nI_1, nI_add, nI_leI, nI_ltI, nI_eq, nI_clamp]
      refine ⟨fun z => ?_, fun z => ?_⟩
      · rw [show max (layS (A 0) n g k o) (g o + 1) = layS (A 0) n g k o by omega] at ih
        exact ih _
      · rw [show max (layS (A 0) n g k o) (g o + 1) = g o + 1 by omega] at ih
        exact ih _
    · have ih := fun y => ih y
      unfold layS at ih
      rw [if_neg (Classical.not_not.mp q)] at ih
      try simp (disch := omega) only [E2, nI_1, nI_add, nI_leI, nI_ltI, nI_eq, nI_clamp]
      exact ih _
theorem m_layerR {rk : Nat → Nat} (hM : MO hm m u A R) (hn : A 0 2 = nI n) (hn12 : n ≤ 12) (hrk : ∀ k o, k < n → o < n → bt (A 0 (195 + k)) o = true → rk o < rk k) :
    ∀ f, f ≤ 12 → ∀ k, k < n → rk k ≤ f → ∀ (e : Nat) (Q : QT), Q (some (.int (nI (layM (A 0) n (f + 1) k)))) hm hs → CC X EV (e + f + 2) 204 [.ref m, .int (nI k)] hm hs Q := by
  intro f
  induction f with
  | zero =>
    intro _ k hk hr e Q hQ
    exact m_layStep hM hn hn12 hk (fun o => Nat.le_trans (layM_le _ _ _ _) (by omega)) (fun o ho hb => absurd (hrk k o hk ho hb) (by omega)) hQ
  | succ f ih =>
    intro hf k hk hr e Q hQ
    exact m_layStep (e := e + f + 1) hM hn hn12 hk (fun o => Nat.le_trans (layM_le _ _ _ _) (by omega)) (fun o ho hb Q' hQ' => ih (by omega) o ho (by have := hrk k o hk ho hb; omega) e Q' hQ') hQ
theorem m_layerOf {rk : Nat → Nat} {k : Nat} (hM : MO hm m u A R) (hn : A 0 2 = nI n) (hn12 : n ≤ 12) (hrk : ∀ k o, k < n → o < n → bt (A 0 (195 + k)) o = true → rk o < rk k) (hr12 : ∀ k, k < n → rk k ≤ 12) (hk : k < n)
    (hQ : Q (some (.int (nI (layM (A 0) n 13 k)))) hm hs) : CC X EV (d + 14) 204 [.ref m, .int (nI k)] hm hs Q :=
  m_layerR hM hn hn12 hrk 12 (by omega) k hk (hr12 k hk) d Q hQ
theorem m_layers {rk : Nat → Nat} (hM : MO hm m u A R) (hn : A 0 2 = nI n) (hn12 : n ≤ 12) (hrk : ∀ k o, k < n → o < n → bt (A 0 (195 + k)) o = true → rk o < rk k) (hr12 : ∀ k, k < n → rk k ≤ 12)
    (hQ : ∀ hm' u' A', MO hm' m u' A' R → KM u u' A A' → sm m (m + 16) hm hm' → Q (some (.int (nI (mxl (layM (A 0) n 13) n)))) hm' hs) : CC X EV (d + 15) 214 [.ref m] hm hs Q := by
  have hmx : ∀ k, mxl (layM (A 0) n 13) k ≤ 14 := by
    intro k
    induction k with
    | zero => exact Nat.zero_le _
    | succ k ih => unfold mxl; have := layM_le (A 0) n 13 k; omega
  have hM1 := hM.o (upd u 4 0)
  have s1 : sm m (m + 16) hm (im_up hm m (.inr (10, fs_MO m (upd u 4 0)))) := sm.rf.up (by omega)
  refine c_of (ls2 := [.ref m, .null, .null]) Y214 (Nat.le_of_ble_eq_true rfl) rfl I214 ?_
  simp (disch := first | omega | (simp only [List.length_cons, List.length_nil]; omega)) only [r_al0 dX10_layers_0, r_iconst dX10_layers_1 ki0, r_putf dX10_layers_2 F10_1, r_iconst dX10_layers_5 kim1, r_is1 dX10_layers_6, r_iconst dX10_layers_7 ki0, r_is2 dX10_layers_8, List.cons_append, List.nil_append, Nat.reduceAdd, Option.toList, cat_f, cat_i, cat_n, cat_r, eq_self, fit_i, ft10_4, p10_4, pk_un, pk_us, rd_up_eq, rd_up_ne, true_and, up_eq, up_ne, up_up, z0, hM.r, rd_own hM.r, hM.r, rd_own hM.r]
  generalize im_up hm m (.inr (10, fs_MO m (upd u 4 0))) = hm1 at hM1 s1 ⊢
  have hQ := hQ _ _ _ hM1 KM.rf.u4 s1
  refine up_loop n (fun k => E1 X EV (d + 14) 10 0 0 (some .int) false cX10_layers Q 9 [.ref m, .int (nI (mxl (layM (A 0) n 13) k) - 1), .int (nI k)] [] 0 0 hm1 hs) ?_ ?_ 0 (by omega)
  · skip
    simp only [r_il2 dX10_layers_9, r_al0 dX10_layers_10, r_getf dX10_layers_11 F10_13, r_iconst dX10_layers_14 ki2, r_iald dX10_layers_15, r_ic_ge (tgt := 44) dX10_layers_16 rfl, r_al0 dX10_layers_19, r_il2 dX10_layers_20, r_il1 dX10_layers_44, r_iconst dX10_layers_45 ki1, r_iadd dX10_layers_46, r_iret dX10_layers_47 (Nat.zero_le _) (Nat.zero_le _), List.cons_append, List.nil_append, Nat.reduceAdd, Option.toList, aI_ok, g10_0, z0, hM1.r, rd_own hM1.r, hM1.r0, rd_own hM1.r0, vs2, ck2, hn, true_and, Int32.sub_add_cancel]
    exact ⟨fun _ => hQ, fun z => absurd (Int32.le_refl _) z⟩
  · intro k hk ih
    have hb := hmx k
    have hb2 := layM_le (A 0) n 13 k
    have hcmp : (nI (layM (A 0) n 13 k) ≤ nI (mxl (layM (A 0) n 13) k) - 1) = (layM (A 0) n 13 k + 1 ≤ mxl (layM (A 0) n 13) k) := by
      rw [ltp (by omega), nI_ltI (by omega) (by omega)]; rfl
    unfold mxl at ih
    simp only [r_il2 dX10_layers_9, r_al0 dX10_layers_10, r_getf dX10_layers_11 F10_13, r_iconst dX10_layers_14 ki2, r_iald dX10_layers_15, r_ic_ge (tgt := 44) dX10_layers_16 rfl, r_al0 dX10_layers_19, r_il2 dX10_layers_20, r_il1 dX10_layers_44, r_iconst dX10_layers_45 ki1, r_iadd dX10_layers_46, r_iret dX10_layers_47 (Nat.zero_le _) (Nat.zero_le _), List.cons_append, List.nil_append, Nat.reduceAdd, Option.toList, aI_ok, g10_0, z0, hM1.r, rd_own hM1.r, hM1.r0, rd_own hM1.r0, vs2, ck2, hn, true_and]
    refine ⟨fun q => absurd ((nI_leI (by omega) (by omega)).mp q) (by omega), fun _ => ?_⟩
    refine r_iv2 dX10_layers_21 M10_245 Y204 O204 (Nat.le_of_ble_eq_true rfl) (rcv_own hM1.r) (Nat.le_refl _) (Nat.le_refl _) ?_
    refine m_layerOf hM1 hn hn12 hrk hr12 hk ?_
    simp only [r_il1 dX10_layers_24, r_ic_le (tgt := 36) dX10_layers_25 rfl, r_al0 dX10_layers_28, r_il2 dX10_layers_29, r_il1 dX10_layers_36, r_is1 dX10_layers_37, r_ii2 dX10_layers_38 kn1, r_gotoB (tgt := 9) dX10_layers_41 rfl, List.cons_append, List.nil_append, Nat.reduceAdd, Option.toList, cat_f, cat_i, cat_n, cat_r, eq_self, true_and, z0, hcmp]
    refine ⟨fun q => ?_, fun q => ?_⟩
    · rw [show max (mxl (layM (A 0) n 13) k) (layM (A 0) n 13 k + 1) = mxl (layM (A 0) n 13) k by omega] at ih
      try simp (disch := omega) only [E2, nI_1, nI_add, nI_leI, nI_ltI, nI_eq, nI_clamp]
      exact ih
    · rw [show max (mxl (layM (A 0) n 13) k) (layM (A 0) n 13 k + 1) = layM (A 0) n 13 k + 1 by omega, nI_pred] at ih
      refine r_iv2 dX10_layers_30 M10_245 Y204 O204 (Nat.le_of_ble_eq_true rfl) (rcv_own hM1.r) (Nat.le_refl _) (Nat.le_refl _) ?_
      refine m_layerOf hM1 hn hn12 hrk hr12 hk ?_
      simp only [r_goto (tgt := 37) dX10_layers_33 rfl, r_is1 dX10_layers_37, r_ii2 dX10_layers_38 kn1, r_gotoB (tgt := 9) dX10_layers_41 rfl, List.cons_append, List.nil_append, Nat.reduceAdd, Option.toList, cat_f, cat_i, cat_n, cat_r, eq_self, true_and, z0]
      try simp (disch := omega) only [E2, nI_1, nI_add, nI_leI, nI_ltI, nI_eq, nI_clamp]
      exact ih
theorem m_stroke {rk : Nat → Nat} {k wh : Int32} (hM : MO hm m u A R) (hn : A 0 2 = nI n) (hn12 : n ≤ 12) (hL : LN (A 0) n L) (hrk : ∀ k o, k < n → o < n → bt (A 0 (195 + k)) o = true → rk o < rk k) (hr12 : ∀ k, k < n → rk k ≤ 12)
    (h0 : ¬ ((0 ≤ k ∧ k < nI n) ∧ (0 ≤ wh ∧ wh ≤ 9)) → ∀ hm' u' A', MO hm' m u' A' R → KM u u' A A' → sm m (m + 16) hm hm' → Q (some (.int (-2))) hm' hs)
    (hQ : ∀ i x, i < n → x ≤ 9 → k = nI i → wh = nI x → ∀ hm' u' A', MO hm' m u' A' R → KM u u' A A' → sm m (m + 16) hm hm' → Q (some (.int (if x = 4 then A 0 (183 + i) else if x = 5 then (if lwM (A 0) n i = wyM (A 0) n then 0 else if lwM (A 0) n i = 0 then 1 else 2) else if x = 6 then nI (layM (A 0) n 13 i) else if x = 7 then acc (fun o => i ≠ o ∧ cmn (A 0) L i o ≠ -1) n else if x = 8 then cl (A 0) n i else if x = 9 then acc (fun o => bt (cl (A 0) n o) i = true) n else A 0 (7 + 4 * i + x)))) hm' hs) : CC X EV (d + 15) 205 [.ref m, .int k, .int wh] hm hs Q := by
  have hM1 := hM.o (upd u 4 0)
  have s1 : sm m (m + 16) hm (im_up hm m (.inr (10, fs_MO m (upd u 4 0)))) := sm.rf.up (by omega)
  refine c_of (ls2 := [.ref m, .int k, .int wh]) Y205 (Nat.le_of_ble_eq_true rfl) rfl I205 ?_
  simp (disch := first | omega | (simp only [List.length_cons, List.length_nil]; omega)) only [r_al0 dX10_stroke_0, r_iconst dX10_stroke_1 ki0, r_putf dX10_stroke_2 F10_1, r_al0 dX10_stroke_5, r_il1 dX10_stroke_6, List.cons_append, List.nil_append, Nat.reduceAdd, Option.toList, fit_i, ft10_4, p10_4, pk_un, pk_us, rd_up_eq, rd_up_ne, true_and, up_eq, up_ne, up_up, z0, hM.r, rd_own hM.r, hM.r, rd_own hM.r]
  generalize im_up hm m (.inr (10, fs_MO m (upd u 4 0))) = hm1 at hM1 s1 ⊢
  refine r_iv2 dX10_stroke_7 M10_229 Y182 O182 (Nat.le_of_ble_eq_true rfl) (rcv_own hM1.r) (Nat.le_refl _) (Nat.le_refl _) ?_
  refine m_isStroke hM1 hn hn12 ?_
  simp only [r_if_eq (tgt := 25) dX10_stroke_10 rfl, r_il2 dX10_stroke_13, r_i2l dX10_stroke_14, r_lconst dX10_stroke_15 kl0, r_ldc2 dX10_stroke_16 K10_248, r_bipush dX10_stroke_25 kbm2, r_iret dX10_stroke_27 (Nat.zero_le _) (Nat.zero_le _), List.cons_append, List.nil_append, Nat.reduceAdd, Option.toList, z0]
  refine ⟨fun h => h0 (fun z => h z.1) _ _ _ hM1 KM.rf.u4 s1, fun h => ?_⟩
  refine r_ist3 dX10_stroke_19 M10_83 Y155 (Nat.le_of_ble_eq_true rfl) (Nat.le_refl _) (Nat.le_refl _) ?_
  rw [l0_, show (9 : Int64) = (9 : Int32).toInt64 from rfl]
  refine m_in ?_
  simp only [r_if_ne (tgt := 28) dX10_stroke_22 rfl, r_bipush dX10_stroke_25 kbm2, r_iret dX10_stroke_27 (Nat.zero_le _) (Nat.zero_le _), r_al0 dX10_stroke_28, List.cons_append, List.nil_append, Nat.reduceAdd, Option.toList, z0]
  refine ⟨fun h2 => ?_, fun h2 => h0 (fun z => Classical.not_not.mp h2 z.2) _ _ _ hM1 KM.rf.u4 s1⟩
  have h2 := Classical.not_not.mp h2
  obtain ⟨i, hi, rfl⟩ := ix (by omega) (Classical.not_not.mp h)
  obtain ⟨x, hx, rfl⟩ := ixle (n := 9) (by omega) h2.1 h2.2
  have hQ := hQ i x hi hx rfl rfl
  refine r_iv1 dX10_stroke_29 M10_221 Y191 O191 (Nat.le_of_ble_eq_true rfl) (rcv_own hM1.r) (Nat.le_refl _) (Nat.le_refl _) ?_
  refine m_lays2 hM1 (n := n) hn hn12 (fun hm2 u2 A2 hM2 k2 l2 s2 => ?_)
  have hQ := hQ hm2 u2 A2 hM2 (KM.rf.u4.trans k2) (s1.trans s2)
  rw [← k2.S] at hn hL hQ hrk
  simp only [r_il2 dX10_stroke_32, List.cons_append, List.nil_append, Nat.reduceAdd, Option.toList, z0]
  by_cases hx4 : x < 4
  · have hsw : (nI x).toInt < 4 ∨ 9 < (nI x).toInt := by rw [nI_toInt (by omega)]; omega
    rw [r_tsOut (tgt := 114) dX10_stroke_33 hsw rfl]
    simp only [r_al0 dX10_stroke_114, r_getf dX10_stroke_115 F10_13, r_bipush dX10_stroke_118 kb7, r_iconst dX10_stroke_120 ki4, r_il1 dX10_stroke_121, r_imul dX10_stroke_122, r_iadd dX10_stroke_123, r_il2 dX10_stroke_124, r_iadd dX10_stroke_125, r_iald dX10_stroke_126, r_iret dX10_stroke_127 (Nat.zero_le _) (Nat.zero_le _), List.cons_append, List.nil_append, Nat.reduceAdd, Option.toList, aI_ok, g10_0, z0, hM2.r, rd_own hM2.r, hM2.r0, rd_own hM2.r0, s7, nI_add, nI_clamp (show 7 + 4 * i + x < 2 ^ 31 by omega)]
    rw [if_neg (show ¬ x = 4 by omega), if_neg (show ¬ x = 5 by omega), if_neg (show ¬ x = 6 by omega), if_neg (show ¬ x = 7 by omega), if_neg (show ¬ x = 8 by omega), if_neg (show ¬ x = 9 by omega)] at hQ
    exact ⟨vp_in_nI (by omega) (by omega), hQ⟩
  · rcases (show x = 4 ∨ x = 5 ∨ x = 6 ∨ x = 7 ∨ x = 8 ∨ x = 9 by omega) with e | e | e | e | e | e
    · subst e
      rw [r_tsIn (tgt := 72) (off := 39) dX10_stroke_33 (by decide) (by decide) rfl rfl]
      simp only [r_al0 dX10_stroke_72, r_getf dX10_stroke_73 F10_13, r_sipush dX10_stroke_76 ks183, r_il1 dX10_stroke_79, r_iadd dX10_stroke_80, r_iald dX10_stroke_81, r_iret dX10_stroke_82 (Nat.zero_le _) (Nat.zero_le _), List.cons_append, List.nil_append, Nat.reduceAdd, Option.toList, aI_ok, g10_0, z0, hM2.r, rd_own hM2.r, hM2.r0, rd_own hM2.r0, s183, nI_clamp (show 183 + i < 2 ^ 31 by omega)]
      exact ⟨vp_in_nI (by omega) (by omega), hQ⟩
    · subst e
      rw [r_tsIn (tgt := 83) (off := 50) dX10_stroke_33 (by decide) (by decide) rfl rfl]
      simp only [r_al0 dX10_stroke_83, r_il1 dX10_stroke_84, List.cons_append, List.nil_append, Nat.reduceAdd, Option.toList, z0]
      refine r_iv2 dX10_stroke_85 M10_250 Y192 O192 (Nat.le_of_ble_eq_true rfl) (rcv_own hM2.r) (Nat.le_refl _) (Nat.le_refl _) ?_
      refine m_mustOf hM2 (by omega) ?_
      have l1 := wyM_lt (S := A2 0) hn12
      have l3 := lwM_lt (S := A2 0) (k := i) hn12
      rw [l2.2.1, l2.2.2 i hi]
      simp only [r_iret dX10_stroke_88 (Nat.zero_le _) (Nat.zero_le _), List.cons_append, List.nil_append, Nat.reduceAdd, Option.toList, z0]
      rw [if_neg (by decide), if_pos rfl] at hQ
      by_cases c1 : lwM (A2 0) n i = wyM (A2 0) n
      · rw [if_pos c1] at hQ; rw [if_pos (congrArg nI c1)]; exact hQ
      · rw [if_neg c1] at hQ; rw [if_neg (fun q => c1 ((nI_eq (by omega) (by omega)).mp q))]
        by_cases c2 : lwM (A2 0) n i = 0
        · rw [if_pos c2] at hQ; rw [if_pos (show nI (lwM (A2 0) n i) = 0 from congrArg nI c2)]; exact hQ
        · rw [if_neg c2] at hQ; rw [if_neg (show ¬ nI (lwM (A2 0) n i) = 0 from fun q => c2 ((nI_eq (b := 0) (by omega) (by omega)).mp q))]; exact hQ
    · subst e
      rw [r_tsIn (tgt := 89) (off := 56) dX10_stroke_33 (by decide) (by decide) rfl rfl]
      simp only [r_al0 dX10_stroke_89, r_il1 dX10_stroke_90, List.cons_append, List.nil_append, Nat.reduceAdd, Option.toList, z0]
      refine r_iv2 dX10_stroke_91 M10_245 Y204 O204 (Nat.le_of_ble_eq_true rfl) (rcv_own hM2.r) (Nat.le_refl _) (Nat.le_refl _) ?_
      refine m_layerOf hM2 hn hn12 hrk hr12 hi ?_
      simp only [r_iret dX10_stroke_94 (Nat.zero_le _) (Nat.zero_le _), List.cons_append, List.nil_append, Nat.reduceAdd, Option.toList, z0]
      exact hQ
    · subst e
      rw [r_tsIn (tgt := 95) (off := 62) dX10_stroke_33 (by decide) (by decide) rfl rfl]
      simp only [r_al0 dX10_stroke_95, r_il1 dX10_stroke_96, List.cons_append, List.nil_append, Nat.reduceAdd, Option.toList, z0]
      refine r_iv2 dX10_stroke_97 M10_253 Y202 O202 (Nat.le_of_ble_eq_true rfl) (rcv_own hM2.r) (Nat.le_refl _) (Nat.le_refl _) ?_
      refine m_crossings hM2 hn hn12 hi hL ?_
      simp only [r_iret dX10_stroke_100 (Nat.zero_le _) (Nat.zero_le _), List.cons_append, List.nil_append, Nat.reduceAdd, Option.toList, z0]
      exact hQ
    · subst e
      rw [r_tsIn (tgt := 101) (off := 68) dX10_stroke_33 (by decide) (by decide) rfl rfl]
      simp only [r_al0 dX10_stroke_101, r_getf dX10_stroke_102 F10_30, r_il1 dX10_stroke_105, r_iald dX10_stroke_106, r_iret dX10_stroke_107 (Nat.zero_le _) (Nat.zero_le _), List.cons_append, List.nil_append, Nat.reduceAdd, Option.toList, aI_ok, g10_13, z0, hM2.r, rd_own hM2.r, hM2.r13, rd_own hM2.r13, nI_clamp (show i < 2 ^ 31 by omega), l2.1 i hi]
      exact ⟨vp_in_nI (by omega) (by omega), hQ⟩
    · subst e
      rw [r_tsIn (tgt := 108) (off := 75) dX10_stroke_33 (by decide) (by decide) rfl rfl]
      simp only [r_al0 dX10_stroke_108, r_il1 dX10_stroke_109, List.cons_append, List.nil_append, Nat.reduceAdd, Option.toList, z0]
      refine r_iv2 dX10_stroke_110 M10_256 Y203 O203 (Nat.le_of_ble_eq_true rfl) (rcv_own hM2.r) (Nat.le_refl _) (Nat.le_refl _) ?_
      refine m_underOf hM2 hn hn12 (by omega) ?_
      rw [show acc (fun o => bt (A2 13 o) i = true) n = acc (fun o => bt (cl (A2 0) n o) i = true) n from acc_ext (fun o ho => by rw [l2.1 o ho])]
      simp only [r_iret dX10_stroke_113 (Nat.zero_le _) (Nat.zero_le _), List.cons_append, List.nil_append, Nat.reduceAdd, Option.toList, z0]
      exact hQ
end M21
