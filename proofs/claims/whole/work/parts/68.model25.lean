/-- what an act may leave changed -/
def KN (u u' : Nat → Int32) (A A' : Nat → Nat → Int32) : Prop := (∀ k, k ≠ 3 → k ≠ 4 → k ≠ 15 → k ≠ 20 → k ≠ 22 → k ≠ 23 → u' k = u k) ∧ (∀ s, s ≠ 0 → s ≠ 2 → s ≠ 13 → s ≠ 14 → s ≠ 17 → s ≠ 21 → A' s = A s)
/-- one can be told over another one -/
abbrev okM (S : Nat → Int32) (L : Nat → Nat) (n i j : Nat) : Prop := ((i ≠ j ∧ cmn S L i j ≠ -1) ∧ ¬ bt (S (195 + i)) j = true) ∧ ¬ bt (cl S n j) i = true ∧ ¬ wyM (upd S (195 + i) (S (195 + i) ||| sb j)) n = 0
def tldM (S : Nat → Int32) (i j : Nat) : Nat → Int32 := upd S (195 + i) (S (195 + i) ||| sb j)
/-- mending, two by two -/
def mnS (S : Nat → Int32) (L : Nat → Nat) (n : Nat) (N : Nat → Int32) : Nat → (Nat → Int32) × Int32
  | 0 => (S, 0)
  | k + 1 => if ((0 ≤ N (2 * k) ∧ N (2 * k) < nI n) ∧ (0 ≤ N (2 * k + 1) ∧ N (2 * k + 1) < nI n)) ∧ okM (mnS S L n N k).1 L n (N (2 * k)).toNatClampNeg (N (2 * k + 1)).toNatClampNeg then (tldM (mnS S L n N k).1 (N (2 * k)).toNatClampNeg (N (2 * k + 1)).toNatClampNeg, (mnS S L n N k).2) else ((mnS S L n N k).1, (mnS S L n N k).2 ||| sb k)
theorem mnS_out {S : Nat → Int32} {L : Nat → Nat} {n : Nat} {N : Nat → Int32} (hn12 : n ≤ 12) (k j : Nat) (hj : j < 195 ∨ 207 ≤ j) : (mnS S L n N k).1 j = S j := by
  induction k with
  | zero => rfl
  | succ k ih =>
    unfold mnS
    split
    · rename_i h
      obtain ⟨i, hi, e⟩ := ix (by omega) h.1.1
      rw [e, nI_clamp (by omega)]
      show upd _ (195 + i) _ j = S j
      rw [pk_un (by omega)]; exact ih
    · exact ih
section M25
variable {X : HM} {EV : Nat → Value} {d : Nat} {hm : HM} {hs : Nat} {Q : QT} {m n : Nat} {u : Nat → Int32} {A : Nat → Nat → Int32} {R : Nat → Int64} {w h nl np nw nr : Nat} {L : Nat → Nat}
theorem m_over {x y : Int32} {a : Nat} (hM : MO hm m u A R) (hn : A 0 2 = nI n) (hn12 : n ≤ 12) (hL : LN (A 0) n L) (ha : u 3 = nI a) (ha12 : a ≤ 12)
    (h0 : ¬ ((0 ≤ x ∧ x < nI n) ∧ (0 ≤ y ∧ y < nI n)) → ∀ hm' u' A', MO hm' m u' A' R → KM u u' A A' → sm m (m + 16) hm hm' → Q (some (.int (-2))) hm' hs)
    (h1 : ∀ i j, i < n → j < n → x = nI i → y = nI j → ¬ ((i ≠ j ∧ cmn (A 0) L i j ≠ -1) ∧ ¬ bt (A 0 (195 + i)) j = true) → ∀ hm' u' A', MO hm' m u' A' R → KM u u' A A' → sm m (m + 16) hm hm' → Q (some (.int (-5))) hm' hs)
    (h2 : ∀ i j, i < n → j < n → x = nI i → y = nI j → ((i ≠ j ∧ cmn (A 0) L i j ≠ -1) ∧ ¬ bt (A 0 (195 + i)) j = true) → bt (cl (A 0) n j) i = true → ∀ hm' u' A' D, D = dsf (A 0) n i j → 1 ≤ D → D ≤ 11 → MO hm' m u' A' R → KR u u' A A' → u' 18 = nI (D + 1) → RGM (A 0) n (dsf (A 0) n i) i j D (A' 16) → sm m (m + 16) hm hm' → Q (some (.int (-5))) hm' hs)
    (h3 : ∀ i j, i < n → j < n → x = nI i → y = nI j → ((i ≠ j ∧ cmn (A 0) L i j ≠ -1) ∧ ¬ bt (A 0 (195 + i)) j = true) → ¬ bt (cl (A 0) n j) i = true → wyM (tldM (A 0) i j) n = 0 → ∀ hm' u' A', MO hm' m u' A' R → KM u u' A A' → sm m (m + 16) hm hm' → Q (some (.int (-9))) hm' hs)
    (h4 : ∀ i j, i < n → j < n → x = nI i → y = nI j → okM (A 0) L n i j → ∀ hm' u' A', MO hm' m u' A' R → KN u u' A A' → u' 3 = nI (min a 11 + 1) → A' 0 = tldM (A 0) i j → A' 2 = remF A a → sm m (m + 16) hm hm' → Q (some (.int (sumI (fun k => pcnt (tldM (A 0) i j (195 + k))) n))) hm' hs) : CC X EV (d + 16) 197 [.ref m, .int x, .int y] hm hs Q := by
  have hM1 := hM.o (upd u 4 0)
  have s1 : sm m (m + 16) hm (im_up hm m (.inr (10, fs_MO m (upd u 4 0)))) := sm.rf.up (by omega)
  refine c_of (ls2 := [.ref m, .int x, .int y, .null]) Y197 (Nat.le_of_ble_eq_true rfl) rfl I197 ?_
  simp (disch := first | omega | (simp only [List.length_cons, List.length_nil]; omega)) only [r_al0 dX10_over_0, r_iconst dX10_over_1 ki0, r_putf dX10_over_2 F10_1, r_al0 dX10_over_5, r_il1 dX10_over_6, List.cons_append, List.nil_append, Nat.reduceAdd, Option.toList, fit_i, ft10_4, p10_4, pk_un, pk_us, rd_up_eq, rd_up_ne, true_and, up_eq, up_ne, up_up, z0, hM.r, rd_own hM.r, hM.r, rd_own hM.r]
  generalize im_up hm m (.inr (10, fs_MO m (upd u 4 0))) = hm1 at hM1 s1 ⊢
  refine r_iv2 dX10_over_7 M10_229 Y182 O182 (Nat.le_of_ble_eq_true rfl) (rcv_own hM1.r) (Nat.le_refl _) (Nat.le_refl _) ?_
  refine m_isStroke hM1 hn hn12 ?_
  simp only [r_if_eq (tgt := 21) dX10_over_10 rfl, r_al0 dX10_over_13, r_il2 dX10_over_14, r_bipush dX10_over_21 kbm2, r_iret dX10_over_23 (Nat.zero_le _) (Nat.zero_le _), List.cons_append, List.nil_append, Nat.reduceAdd, Option.toList, z0]
  refine ⟨fun g => h0 (fun z => g z.1) _ _ _ hM1 KM.rf.u4 s1, fun g => ?_⟩
  refine r_iv2 dX10_over_15 M10_229 Y182 O182 (Nat.le_of_ble_eq_true rfl) (rcv_own hM1.r) (Nat.le_refl _) (Nat.le_refl _) ?_
  refine m_isStroke hM1 hn hn12 ?_
  simp only [r_if_neB (tgt := 24) dX10_over_18 rfl, r_bipush dX10_over_21 kbm2, r_iret dX10_over_23 (Nat.zero_le _) (Nat.zero_le _), List.cons_append, List.nil_append, Nat.reduceAdd, Option.toList, z0]
  refine ⟨fun g' => ?_, fun g' => h0 (fun z => Classical.not_not.mp g' z.2) _ _ _ hM1 KM.rf.u4 s1⟩
  obtain ⟨i, hi, rfl⟩ := ix (by omega) (Classical.not_not.mp g)
  obtain ⟨j, hj, rfl⟩ := ix (by omega) (Classical.not_not.mp g')
  have hin := vp_in_nI (show 195 + i < 217 by omega) (by omega)
  have h1 := h1 i j hi hj rfl rfl
  have h2 := h2 i j hi hj rfl rfl
  have h3 := h3 i j hi hj rfl rfl
  have h4 := h4 i j hi hj rfl rfl
  try simp (disch := omega) only [E2, nI_1, nI_add, nI_leI, nI_ltI, nI_eq, nI_clamp]
  simp only [r_al0 dX10_over_24, r_il1 dX10_over_25, r_il2 dX10_over_26, List.cons_append, List.nil_append, Nat.reduceAdd, Option.toList, z0]
  refine r_iv3 dX10_over_27 M10_175 Y188 O188 (Nat.le_of_ble_eq_true rfl) (rcv_own hM1.r) (Nat.le_refl _) (Nat.le_refl _) ?_
  refine m_cross hM1 (by omega) (by omega) (hL i hi).1 (hL i hi).2 (hL j hj).1 (hL j hj).2 ?_
  simp only [r_if_eq (tgt := 50) dX10_over_30 rfl, r_al0 dX10_over_33, r_getf dX10_over_34 F10_13, r_sipush dX10_over_37 ks195, r_il1 dX10_over_40, r_iadd dX10_over_41, r_iald dX10_over_42, r_il2 dX10_over_43, r_bipush dX10_over_50 kbm5, r_iret dX10_over_52 (Nat.zero_le _) (Nat.zero_le _), List.cons_append, List.nil_append, Nat.reduceAdd, Option.toList, aI_ok, g10_0, z0, hM1.r, rd_own hM1.r, hM1.r0, rd_own hM1.r0, s195, nI_clamp (show 195 + i < 2 ^ 31 by omega)]
  refine ⟨fun c1 => h1 (fun z => c1 z.1) _ _ _ hM1 KM.rf.u4 s1, fun c1 => ⟨hin, ?_⟩⟩
  have c1 : i ≠ j ∧ cmn (A 0) L i j ≠ -1 := Classical.not_not.mp c1
  refine r_ist2 dX10_over_44 M10_178 Y156 (Nat.le_of_ble_eq_true rfl) (Nat.le_refl _) (Nat.le_refl _) ?_
  refine m_has (by omega) ?_
  simp only [r_if_eq (tgt := 53) dX10_over_47 rfl, r_bipush dX10_over_50 kbm5, r_iret dX10_over_52 (Nat.zero_le _) (Nat.zero_le _), r_al0 dX10_over_53, r_il1 dX10_over_54, r_il2 dX10_over_55, List.cons_append, List.nil_append, Nat.reduceAdd, Option.toList, z0]
  refine ⟨fun c2 => ?_, fun c2 => h1 (fun z => c2 z.2) _ _ _ hM1 KM.rf.u4 s1⟩
  have h2 := h2 ⟨c1, c2⟩
  have h3 := h3 ⟨c1, c2⟩
  refine r_iv3 dX10_over_56 M10_181 Y194 O194 (Nat.le_of_ble_eq_true rfl) (rcv_own hM1.r) (Nat.le_refl _) (Nat.le_refl _) ?_
  refine m_whyOver hM1 (n := n) hn hn12 hi hj (fun e => c1.1 e.symm) (Bool.not_eq_true _ ▸ c2) (fun hc hm2 u2 A2 D eD d1 d2 hM2 k2 e18 hR s2 => ?_) (fun hc hm2 u2 A2 hM2 k2 s2 => ?_)
  · simp only [r_is3 dX10_over_59, r_il3 dX10_over_60, r_if_ge (tgt := 66) dX10_over_61 rfl, r_il3 dX10_over_64, r_iret dX10_over_65 (Nat.zero_le _) (Nat.zero_le _), r_al0 dX10_over_66, List.cons_append, List.nil_append, Nat.reduceAdd, Option.toList, cat_f, cat_i, cat_n, cat_r, eq_self, true_and, z0]
    exact ⟨fun z => absurd z (by decide), fun _ => h2 hc hm2 u2 A2 D eD d1 d2 hM2 (KM.rf.u4.kr.trans k2) e18 hR (s1.trans s2)⟩
  · by_cases hw : wyM (upd (A 0) (195 + i) (A 0 (195 + i) ||| sb j)) n = 0
    · rw [if_pos hw]
      simp only [r_is3 dX10_over_59, r_il3 dX10_over_60, r_if_ge (tgt := 66) dX10_over_61 rfl, r_il3 dX10_over_64, r_iret dX10_over_65 (Nat.zero_le _) (Nat.zero_le _), r_al0 dX10_over_66, List.cons_append, List.nil_append, Nat.reduceAdd, Option.toList, cat_f, cat_i, cat_n, cat_r, eq_self, true_and, z0]
      exact ⟨fun z => absurd z (by decide), fun _ => h3 hc hw hm2 u2 A2 hM2 (KM.rf.u4.trans k2) (s1.trans s2)⟩
    · rw [if_neg hw]
      have h4 := h4 ⟨⟨c1, c2⟩, hc, hw⟩
      have k3 := KM.rf.u4.trans k2
      simp only [r_is3 dX10_over_59, r_il3 dX10_over_60, r_if_ge (tgt := 66) dX10_over_61 rfl, r_il3 dX10_over_64, r_iret dX10_over_65 (Nat.zero_le _) (Nat.zero_le _), r_al0 dX10_over_66, List.cons_append, List.nil_append, Nat.reduceAdd, Option.toList, cat_f, cat_i, cat_n, cat_r, eq_self, true_and, z0]
      refine ⟨fun _ => ?_, fun z => absurd (by decide) z⟩
      have e3 : u2 3 = nI a := by rw [k3.1 3 (by decide) (by decide) (by decide) (by decide) (by decide)]; exact ha
      have e0 : A2 0 = A 0 := k2.S
      have e2 : A2 2 = A 2 := k2.2 2 (by decide) (by decide) (by decide) (by decide)
      refine r_iv1 dX10_over_67 M10_232 Y195 O195 (Nat.le_of_ble_eq_true rfl) (rcv_own hM2.r) (Nat.le_refl _) (Nat.le_refl _) ?_
      refine m_remembers hM2 (a := a) e3 ha12 (fun hm4 hM4 s4 => ?_)
      rw [e2, e0] at hM4
      have e40 : ∀ f, (va_up A2 2 f) 0 = A 0 := fun f => e0
      simp (disch := first | omega | (simp only [List.length_cons, List.length_nil]; omega)) only [r_al0 dX10_over_70, r_getf dX10_over_71 F10_13, r_sipush dX10_over_74 ks195, r_il1 dX10_over_77, r_iadd dX10_over_78, r_dup2_ir dX10_over_79, r_dup2_l dX10_over_79, r_iald dX10_over_80, r_iconst dX10_over_81 ki1, r_il2 dX10_over_82, r_ishl dX10_over_83, r_ior dX10_over_84, r_iast dX10_over_85, r_al0 dX10_over_86, List.cons_append, List.nil_append, Nat.reduceAdd, Option.toList, aI_ok, g10_0, pk_un, pk_us, rd_up_eq, rd_up_ne, sI_ok, up_eq, up_ne, up_up, z0, hM4.r, rd_own hM4.r, hM4.r0, rd_own hM4.r0, e40, s195, nI_clamp (show 195 + i < 2 ^ 31 by omega)]
      refine ⟨hin, hin, ?_⟩
      have hM5 := hM4.w0 (tldM (A 0) i j)
      refine r_iv1 dX10_over_87 M10_235 Y196 O196 (Nat.le_of_ble_eq_true rfl) (rcv_own hM5.r) (Nat.le_refl _) (Nat.le_refl _) ?_
      refine m_twos hM5 (n := n) ((pk_un (by omega)).trans hn) hn12 ?_
      simp only [r_iret dX10_over_90 (Nat.zero_le _) (Nat.zero_le _), List.cons_append, List.nil_append, Nat.reduceAdd, Option.toList, z0]
      refine h4 _ _ _ hM5 ⟨fun k a1 a2 a3 a4 a5 a6 => by rw [pk_un a1]; exact k3.1 k a2 a3 a4 a5 a6, fun s b1 b2 b3 b4 b5 b6 => by rw [vu_ne b1, vu_ne b2]; exact k2.2 s b3 b4 b5 b6⟩ pk_us (vu_eq _ _ _) ?_ (((s1.trans s2).trans s4).up (by omega))
      show (va_up (va_up A2 2 _) 0 _) 2 = remF A a
      rw [vu_ne (by decide), vu_eq]; rfl
theorem m_mending {r wh : Int32} (hM : MO hm m u A R) (hn : A 0 2 = nI n) (hn12 : n ≤ 12) (hL : LN (A 0) n L) (hz : ∀ i, i < 4 → A 24 i = -1 ∨ ∃ z, z ≤ 12 ∧ A 24 i = nI z)
    (h0 : ¬ ((0 ≤ r ∧ r < 4) ∧ (0 ≤ wh ∧ wh ≤ 1)) → ∀ hm' u' A', MO hm' m u' A' R → KM u u' A A' → sm m (m + 16) hm hm' → Q (some (.long (-2))) hm' hs)
    (h1 : ∀ i, i < 4 → r = nI i → (0 ≤ wh ∧ wh ≤ 1) → A 24 i = -1 → ∀ hm' u' A', MO hm' m u' A' R → KM u u' A A' → sm m (m + 16) hm hm' → Q (some (.long (-6))) hm' hs)
    (hQ : ∀ i z, i < 4 → z ≤ 12 → r = nI i → (0 ≤ wh ∧ wh ≤ 1) → A 24 i = nI z → ∀ hm' u' A' R', MO hm' m u' A' R' → (∀ k, k ≠ 4 → k ≠ 15 → k ≠ 20 → k ≠ 22 → k ≠ 23 → u' k = u k) → (∀ s, s ≠ 13 → s ≠ 14 → s ≠ 16 → s ≠ 17 → s ≠ 21 → s ≠ 27 → s ≠ 28 → A' s = A s) → (∀ x, x < 12 → A' 16 x = A 16 x) → sm m (m + 16) hm hm' →
      ∀ q, q = mnS (A 0) L n (fun j => A 26 (12 * i + j)) (z / 2) → Q (some (.long (if wh = 0 then lN (lin (cl q.1 n) n (2 ^ n - 1)) else q.2.toInt64))) hm' hs) : CC X EV (d + 16) 258 [.ref m, .int r, .int wh] hm hs Q := by
  have hM1 := hM.o (upd u 4 0)
  have s1 : sm m (m + 16) hm (im_up hm m (.inr (10, fs_MO m (upd u 4 0)))) := sm.rf.up (by omega)
  refine c_of (ls2 := [.ref m, .int r, .int wh, .null, .null, .null, .null, .null, .null]) Y258 (Nat.le_of_ble_eq_true rfl) rfl I258 ?_
  simp (disch := first | omega | (simp only [List.length_cons, List.length_nil]; omega)) only [r_al0 dX10_mending_0, r_iconst dX10_mending_1 ki0, r_putf dX10_mending_2 F10_1, r_il1 dX10_mending_5, List.cons_append, List.nil_append, Nat.reduceAdd, Option.toList, fit_i, ft10_4, p10_4, pk_un, pk_us, rd_up_eq, rd_up_ne, true_and, up_eq, up_ne, up_up, z0, hM.r, rd_own hM.r, hM.r, rd_own hM.r]
  generalize im_up hm m (.inr (10, fs_MO m (upd u 4 0))) = hm1 at hM1 s1 ⊢
  refine r_ist1 dX10_mending_6 M10_344 Y253 (Nat.le_of_ble_eq_true rfl) (Nat.le_refl _) (Nat.le_refl _) ?_
  refine m_isRowAt ?_
  simp only [r_if_eq (tgt := 22) dX10_mending_9 rfl, r_il2 dX10_mending_12, r_i2l dX10_mending_13, r_lconst dX10_mending_14 kl0, r_lconst dX10_mending_15 kl1, r_ldc2 dX10_mending_22 K10_267, r_lret dX10_mending_25 (Nat.zero_le _) (Nat.zero_le _), List.cons_append, List.nil_append, Nat.reduceAdd, Option.toList, z0]
  refine ⟨fun g => h0 (fun q => g q.1) _ _ _ hM1 KM.rf.u4 s1, fun g => ?_⟩
  have g := Classical.not_not.mp g
  refine r_ist3 dX10_mending_16 M10_83 Y155 (Nat.le_of_ble_eq_true rfl) (Nat.le_refl _) (Nat.le_refl _) ?_
  rw [l0_, show (1 : Int64) = (1 : Int32).toInt64 from rfl]
  refine m_in ?_
  simp only [r_if_neB (tgt := 26) dX10_mending_19 rfl, r_ldc2 dX10_mending_22 K10_267, r_lret dX10_mending_25 (Nat.zero_le _) (Nat.zero_le _), List.cons_append, List.nil_append, Nat.reduceAdd, Option.toList, z0]
  refine ⟨fun g2 => ?_, fun g2 => h0 (fun q => Classical.not_not.mp g2 q.2) _ _ _ hM1 KM.rf.u4 s1⟩
  have g2 := Classical.not_not.mp g2
  obtain ⟨i, hi, rfl⟩ := in4 g
  have hin := vp_in_nI hi (by omega)
  try simp (disch := omega) only [E2, nI_1, nI_add, nI_leI, nI_ltI, nI_eq, nI_clamp]
  simp only [r_al0 dX10_mending_26, r_getf dX10_mending_27 F10_49, r_il1 dX10_mending_30, r_iald dX10_mending_31, r_iconst dX10_mending_32 kim1, r_ic_ne (tgt := 40) dX10_mending_33 rfl, r_ldc2 dX10_mending_36 K10_349, r_lret dX10_mending_39 (Nat.zero_le _) (Nat.zero_le _), r_al0 dX10_mending_40, r_getf dX10_mending_41 F10_218, r_is3 dX10_mending_44, r_iconst dX10_mending_45 ki0, r_is4 dX10_mending_46, List.cons_append, List.nil_append, Nat.reduceAdd, Option.toList, aI_ok, cat_f, cat_i, cat_n, cat_r, eq_self, g10_18, g10_24, true_and, z0, hM1.r, rd_own hM1.r, hM1.r24, rd_own hM1.r24, nI_clamp (show i < 2 ^ 31 by omega)]
  refine ⟨hin, fun k => ?_, fun k => h1 i hi rfl g2 (Classical.not_not.mp k) _ _ _ hM1 KM.rf.u4 s1⟩
  rcases hz i hi with e | ⟨z, hz12, ez⟩
  · exact absurd e k
  have hQ := hQ i z hi hz12 rfl g2 ez
  have e18 : (upd u 4 0) 18 = u 18 := pk_un (by decide)
  rw [e18]
  suffices H : ∀ x, x ≤ 12 → ∀ hm2 F G, MO hm2 m (upd u 4 0) (va_up (va_up A 27 F) 28 G) R → (∀ j, j < x → F j = A 0 (195 + j) ∧ G j = A 16 j) → sm m (m + 16) hm hm2 → E1 X EV (d + 15) 10 0 0 (some .long) false cX10_mending Q 48 [.ref m, .int (nI i), .int wh, .int (u 18), .int (nI x), .null, .null, .null, .null] [] 0 0 hm2 hs from
    H 0 (by omega) hm1 (A 27) (A 28) (by rw [va_self, va_self]; exact hM1) (fun j hj => absurd hj (Nat.not_lt_zero j)) s1
  refine up_loop 12 _ ?_ ?_
  · intro hm2 F G hM2 hFG s2
    simp (disch := first | omega | (simp only [List.length_cons, List.length_nil]; omega)) only [r_il4 dX10_mending_48, r_bipush dX10_mending_50 kb12, r_ic_ge (tgt := 93) dX10_mending_52 rfl, r_al0 dX10_mending_55, r_getf dX10_mending_56 F10_58, r_il4 dX10_mending_59, r_al0 dX10_mending_61, r_getf dX10_mending_62 F10_13, r_sipush dX10_mending_65 ks195, r_il4 dX10_mending_68, r_iadd dX10_mending_70, r_iald dX10_mending_71, r_iast dX10_mending_72, r_al0 dX10_mending_73, r_getf dX10_mending_74 F10_61, r_il4 dX10_mending_77, r_al0 dX10_mending_79, r_getf dX10_mending_80 F10_36, r_il4 dX10_mending_83, r_iald dX10_mending_85, r_iast dX10_mending_86, r_ii4 dX10_mending_87 kn1, r_gotoB (tgt := 48) dX10_mending_90 rfl, r_iconst dX10_mending_93 ki0, r_is4 dX10_mending_94, r_iconst dX10_mending_96 ki0, r_is5 dX10_mending_97, List.cons_append, List.nil_append, Nat.reduceAdd, Option.toList, aI_ok, cat_f, cat_i, cat_n, cat_r, eq_self, g10_0, g10_16, g10_27, g10_28, pk_un, pk_us, rd_up_eq, rd_up_ne, sI_ok, true_and, up_eq, up_ne, up_up, z0]
    refine ⟨fun _ => ?_, fun q => absurd (by decide) q⟩
    obtain ⟨N, eN⟩ : ∃ N : Nat → Int32, N = fun j => A 26 (12 * i + j) := ⟨_, rfl⟩
    rw [← eN] at hQ
    suffices H : ∀ x, x ≤ z / 2 → ∀ hm3 u3 A3 y6 y7 y8, MO hm3 m u3 A3 R → (∀ k, k ≠ 4 → k ≠ 15 → k ≠ 18 → k ≠ 20 → k ≠ 22 → k ≠ 23 → u3 k = u k) → (∀ s, s ≠ 0 → s ≠ 13 → s ≠ 14 → s ≠ 16 → s ≠ 17 → s ≠ 21 → s ≠ 27 → s ≠ 28 → A3 s = A s) → A3 27 = F → A3 28 = G → A3 0 = (mnS (A 0) L n N x).1 → sm m (m + 16) hm hm3 →
        E1 X EV (d + 15) 10 0 0 (some .long) false cX10_mending Q 99 [.ref m, .int (nI i), .int wh, .int (u 18), .int (mnS (A 0) L n N x).2, .int (nI x), y6, y7, y8] [] 0 0 hm3 hs from
      H 0 (by omega) hm2 _ _ _ _ _ hM2 (fun k a1 a2 a3 a4 a5 a6 => pk_un a1) (fun s b1 b2 b3 b4 b5 b6 b7 b8 => by rw [vu_ne b8, vu_ne b7]) rfl rfl rfl s2
    refine up_loop (z / 2) _ ?_ ?_
    · intro hm3 u3 A3 y6 y7 y8 hM3 ku kA k27 k28 k0 s3
      have e24 : A3 24 = A 24 := kA 24 (by decide) (by decide) (by decide) (by decide) (by decide) (by decide) (by decide) (by decide)
      have en3 : A3 0 2 = nI n := by rw [k0, mnS_out hn12 _ 2 (by omega)]; exact hn
      simp only [r_iconst dX10_mending_99 ki2, r_il5 dX10_mending_100, r_imul dX10_mending_102, r_iconst dX10_mending_103 ki1, r_iadd dX10_mending_104, r_al0 dX10_mending_105, r_getf dX10_mending_106 F10_49, r_il1 dX10_mending_109, r_iald dX10_mending_110, r_ic_geB (tgt := 255) dX10_mending_111 rfl, r_al0 dX10_mending_114, r_getf dX10_mending_115 F10_55, r_bipush dX10_mending_118 kb12, r_il1 dX10_mending_120, r_imul dX10_mending_121, r_iconst dX10_mending_122 ki2, r_il5 dX10_mending_123, r_imul dX10_mending_125, r_iadd dX10_mending_126, r_iald dX10_mending_127, r_is6 dX10_mending_128, r_al0 dX10_mending_130, r_getf dX10_mending_131 F10_55, r_bipush dX10_mending_134 kb12, r_il1 dX10_mending_136, r_imul dX10_mending_137, r_iconst dX10_mending_138 ki2, r_il5 dX10_mending_139, r_imul dX10_mending_141, r_iadd dX10_mending_142, r_iconst dX10_mending_143 ki1, r_iadd dX10_mending_144, r_iald dX10_mending_145, r_is7 dX10_mending_146, r_al0 dX10_mending_148, r_il6 dX10_mending_149, List.cons_append, List.nil_append, Nat.reduceAdd, Option.toList, aI_ok, cat_f, cat_i, cat_n, cat_r, eq_self, g10_24, g10_26, true_and, z0, hM3.r, rd_own hM3.r, hM3.r24, rd_own hM3.r24, e24, ez, nI_clamp (show i < 2 ^ 31 by omega), show (2 : Int32) = nI 2 from rfl, pk_mul, nI_1]
      refine ⟨hin, fun _ => ?_, fun q => absurd ((nI_leI (show z < 2 ^ 31 by omega) (by omega)).mpr (by omega)) q⟩
      try simp (disch := omega) only [E2, nI_1, nI_add, nI_leI, nI_ltI, nI_eq, nI_clamp]
      simp only [r_al0 dX10_mending_255, List.cons_append, List.nil_append, Nat.reduceAdd, Option.toList, z0]
      refine r_iv1 dX10_mending_256 M10_169 Y189 O189 (Nat.le_of_ble_eq_true rfl) (rcv_own hM3.r) (Nat.le_refl _) (Nat.le_refl _) ?_
      refine m_laysOver2 hM3 en3 hn12 (fun hm4 A4 hM4 k4 l4 s4 => ?_)
      have en4 : A4 0 2 = nI n := by rw [k4.S]; exact en3
      simp only [r_al0 dX10_mending_259, List.cons_append, List.nil_append, Nat.reduceAdd, Option.toList, z0]
      refine r_iv1 dX10_mending_260 M10_259 Y209 O209 (Nat.le_of_ble_eq_true rfl) (rcv_own hM4.r) (Nat.le_refl _) (Nat.le_refl _) ?_
      refine m_ordersNow hM4 en4 hn12 (fun hm5 R5 hM5 s5 => ?_)
      rw [lin_ext l4, k4.S, k0]
      have hQ := fun hm' u' A' a b c e f => hQ hm' u' A' R5 a b c e f _ rfl
      have ka27 : A4 27 = F := (k4.2 27 (by decide) (by decide) (by decide) (by decide)).trans k27
      have ka28 : A4 28 = G := (k4.2 28 (by decide) (by decide) (by decide) (by decide)).trans k28
      have ka0 : A4 0 = (mnS (A 0) L n N (z / 2)).1 := k4.S.trans k0
      have kaA : ∀ s, s ≠ 0 → s ≠ 13 → s ≠ 14 → s ≠ 16 → s ≠ 17 → s ≠ 21 → s ≠ 27 → s ≠ 28 → A4 s = A s := fun s b1 b2 b3 b4 b5 b6 b7 b8 => (k4.2 s b2 b3 b5 b6).trans (kA s b1 b2 b3 b4 b5 b6 b7 b8)
      have hmo : ∀ j, j < 195 ∨ 207 ≤ j → (mnS (A 0) L n N (z / 2)).1 j = A 0 j := fun j hj => mnS_out hn12 _ j hj
      generalize mnS (A 0) L n N (z / 2) = q at hQ ka0 hmo ⊢
      generalize lin (cl q.1 n) n (2 ^ n - 1) = lq at hQ ⊢
      simp (disch := first | omega | (simp only [List.length_cons, List.length_nil]; omega)) only [r_ls5 dX10_mending_263, r_al0 dX10_mending_265, r_il3 dX10_mending_266, r_putf dX10_mending_267 F10_218, r_iconst dX10_mending_270 ki0, r_is7 dX10_mending_271, List.cons_append, List.nil_append, Nat.reduceAdd, Option.toList, cat_f, cat_i, cat_n, cat_r, eq_self, fit_i, ft10_18, p10_18, pk_un, pk_us, rd_up_eq, rd_up_ne, true_and, up_eq, up_ne, up_up, z0, hM5.r, rd_own hM5.r, hM5.r, rd_own hM5.r]
      suffices H : ∀ x, x ≤ 12 → ∀ hm6 P G2, MO hm6 m (upd u3 18 (u 18)) (va_up (va_up A4 0 P) 16 G2) R5 → (∀ j, P j = if 195 ≤ j ∧ j < 195 + x then A 0 j else q.1 j) → (∀ j, j < x → G2 j = A 16 j) → sm m (m + 16) hm hm6 → E1 X EV (d + 15) 10 0 0 (some .long) false cX10_mending Q 273 [.ref m, .int (nI i), .int wh, .int (u 18), .int q.2, .long (lN lq), .null, .int (nI x), y8] [] 0 0 hm6 hs from
        H 0 (by omega) _ q.1 (A4 16) (by
          rw [show va_up (va_up A4 0 q.1) 16 (A4 16) = va_up A4 0 q.1 from va_self (va_up A4 0 q.1) 16, ← ka0, va_self]
          exact hM5.o _) (fun j => by rw [if_neg (by omega)]) (fun j hj => absurd hj (Nat.not_lt_zero j)) (((s3.trans s4).trans s5).up (by omega))
      refine up_loop 12 _ ?_ ?_
      · intro hm6 P G2 hM6 hP hG2 s6
        have eP : P = A 0 := by
          funext j
          rw [hP j]
          by_cases hj : 195 ≤ j ∧ j < 195 + 12
          · rw [if_pos hj]
          · rw [if_neg hj]; exact hmo j (by omega)
        have hQ := hQ hm6 _ _ hM6 (fun k a1 a2 a3 a4 a5 => by
          by_cases h18 : k = 18
          · rw [h18, pk_us]
          · rw [pk_un h18]; exact ku k a1 a2 h18 a3 a4 a5) (fun s b1 b2 b3 b4 b5 b6 b7 => by
          rw [vu_ne b3]
          by_cases hs0 : s = 0
          · rw [hs0, vu_eq, eP]
          · rw [vu_ne hs0]; exact kaA s hs0 b1 b2 b3 b4 b5 b6 b7) (fun x hx => by rw [vu_eq]; exact hG2 x hx) s6
        simp (disch := first | omega | (simp only [List.length_cons, List.length_nil]; omega)) only [r_il7 dX10_mending_273, r_bipush dX10_mending_275 kb12, r_ic_ge (tgt := 318) dX10_mending_277 rfl, r_al0 dX10_mending_280, r_getf dX10_mending_281 F10_13, r_sipush dX10_mending_284 ks195, r_il7 dX10_mending_287, r_iadd dX10_mending_289, r_al0 dX10_mending_290, r_getf dX10_mending_291 F10_58, r_il7 dX10_mending_294, r_iald dX10_mending_296, r_iast dX10_mending_297, r_al0 dX10_mending_298, r_getf dX10_mending_299 F10_36, r_il7 dX10_mending_302, r_al0 dX10_mending_304, r_getf dX10_mending_305 F10_61, r_il7 dX10_mending_308, r_iald dX10_mending_310, r_iast dX10_mending_311, r_ii7 dX10_mending_312 kn1, r_gotoB (tgt := 273) dX10_mending_315 rfl, r_il2 dX10_mending_318, r_if_ne (tgt := 327) dX10_mending_319 rfl, r_ll5 dX10_mending_322, r_goto (tgt := 330) dX10_mending_324 rfl, r_il4 dX10_mending_327, r_i2l dX10_mending_329, r_lret dX10_mending_330 (Nat.zero_le _) (Nat.zero_le _), List.cons_append, List.nil_append, Nat.reduceAdd, Option.toList, aI_ok, cat_f, cat_i, cat_n, cat_r, eq_self, g10_0, g10_16, g10_27, g10_28, pk_un, pk_us, rd_up_eq, rd_up_ne, sI_ok, true_and, up_eq, up_ne, up_up, z0]
        refine ⟨fun _ => ⟨fun w0 => ?_, fun w0 => ?_⟩, fun q => absurd (by decide) q⟩
        · rw [if_neg w0] at hQ; exact hQ
        · rw [if_pos (Classical.not_not.mp w0)] at hQ; exact hQ
      · intro x hx ih hm6 P G2 hM6 hP hG2 s6
        have f0 : (va_up (va_up A4 0 P) 16 G2) 0 = P := rfl
        have f27 : (va_up (va_up A4 0 P) 16 G2) 27 = F := ka27
        have f28 : (va_up (va_up A4 0 P) 16 G2) 28 = G := ka28
        have f16 : (va_up (va_up A4 0 P) 16 G2) 16 = G2 := vu_eq _ _ _
        have hM7 := hM6.w0 (upd P (195 + x) (F x))
        have hM8 := hM7.w16 (upd G2 x (G x))
        simp (disch := first | omega | (simp only [List.length_cons, List.length_nil]; omega)) only [r_il7 dX10_mending_273, r_bipush dX10_mending_275 kb12, r_ic_ge (tgt := 318) dX10_mending_277 rfl, r_al0 dX10_mending_280, r_getf dX10_mending_281 F10_13, r_sipush dX10_mending_284 ks195, r_il7 dX10_mending_287, r_iadd dX10_mending_289, r_al0 dX10_mending_290, r_getf dX10_mending_291 F10_58, r_il7 dX10_mending_294, r_iald dX10_mending_296, r_iast dX10_mending_297, r_al0 dX10_mending_298, r_getf dX10_mending_299 F10_36, r_il7 dX10_mending_302, r_al0 dX10_mending_304, r_getf dX10_mending_305 F10_61, r_il7 dX10_mending_308, r_iald dX10_mending_310, r_iast dX10_mending_311, r_ii7 dX10_mending_312 kn1, r_gotoB (tgt := 273) dX10_mending_315 rfl, r_il2 dX10_mending_318, r_if_ne (tgt := 327) dX10_mending_319 rfl, r_ll5 dX10_mending_322, r_goto (tgt := 330) dX10_mending_324 rfl, r_il4 dX10_mending_327, r_i2l dX10_mending_329, r_lret dX10_mending_330 (Nat.zero_le _) (Nat.zero_le _), List.cons_append, List.nil_append, Nat.reduceAdd, Option.toList, aI_ok, cat_f, cat_i, cat_n, cat_r, eq_self, g10_0, g10_16, g10_27, g10_28, pk_un, pk_us, rd_up_eq, rd_up_ne, sI_ok, true_and, up_eq, up_ne, up_up, z0, hM6.r, rd_own hM6.r, hM6.r0, rd_own hM6.r0, hM6.r16, rd_own hM6.r16, hM6.r27, rd_own hM6.r27, hM6.r28, rd_own hM6.r28, f0, f27, f28, f16, s195, nI_clamp (show 195 + x < 2 ^ 31 by omega), nI_clamp (show x < 2 ^ 31 by omega)]
        refine ⟨fun q => absurd ((nI_leI (a := 12) (by omega) (by omega)).mp q) (by omega), fun _ => ⟨vp_in_nI (by omega) (by omega), vp_in_nI (by omega) (by omega), vp_in_nI (by omega) (by omega), vp_in_nI (by omega) (by omega), ?_⟩⟩
        try simp (disch := omega) only [E2, nI_1, nI_add, nI_leI, nI_ltI, nI_eq, nI_clamp]
        have e9 : va_up (va_up (va_up (va_up A4 0 P) 16 G2) 0 (upd P (195 + x) (F x))) 16 (upd G2 x (G x)) = va_up (va_up A4 0 (upd P (195 + x) (F x))) 16 (upd G2 x (G x)) := by
          funext s
          by_cases h16 : s = 16
          · rw [h16, vu_eq, vu_eq]
          · rw [vu_ne h16, vu_ne h16]
            by_cases hs0 : s = 0
            · rw [hs0, vu_eq, vu_eq]
            · rw [vu_ne hs0, vu_ne h16, vu_ne hs0, vu_ne hs0]
        rw [e9] at hM8
        refine ih _ _ _ hM8 (fun j => ?_) (fun j hj => ?_) ((s6.up (by omega)).up (by omega))
        · by_cases hj : j = 195 + x
          · rw [hj, pk_us, if_pos (by omega), (hFG x hx).1]
          · rw [pk_un hj, hP j]
            by_cases h5 : 195 ≤ j ∧ j < 195 + x
            · rw [if_pos h5, if_pos (by omega)]
            · rw [if_neg h5, if_neg (by omega)]
        · by_cases hj2 : j = x
          · rw [hj2, pk_us, (hFG x hx).2]
          · rw [pk_un hj2]; exact hG2 j (by omega)
    · intro x hx ih hm3 u3 A3 y6 y7 y8 hM3 ku kA k27 k28 k0 s3
      have e24 : A3 24 = A 24 := kA 24 (by decide) (by decide) (by decide) (by decide) (by decide) (by decide) (by decide) (by decide)
      have e26 : A3 26 = A 26 := kA 26 (by decide) (by decide) (by decide) (by decide) (by decide) (by decide) (by decide) (by decide)
      have en3 : A3 0 2 = nI n := by rw [k0, mnS_out hn12 _ 2 (by omega)]; exact hn
      have hL3 : LN (A3 0) n L := fun k hk => ⟨by rw [k0, mnS_out hn12 _ _ (by omega)]; exact (hL k hk).1, (hL k hk).2⟩
      have eN1 : A 26 (12 * i + 2 * x) = N (2 * x) := by rw [eN]
      have eN2 : A 26 (12 * i + 2 * x + 1) = N (2 * x + 1) := by rw [eN]; rfl
      unfold mnS at ih
      rw [← k0] at ih
      generalize (mnS (A 0) L n N x).2 = ot at ih ⊢
      generalize N (2 * x) = va at ih eN1
      generalize N (2 * x + 1) = vb at ih eN2
      simp only [r_iconst dX10_mending_99 ki2, r_il5 dX10_mending_100, r_imul dX10_mending_102, r_iconst dX10_mending_103 ki1, r_iadd dX10_mending_104, r_al0 dX10_mending_105, r_getf dX10_mending_106 F10_49, r_il1 dX10_mending_109, r_iald dX10_mending_110, r_ic_geB (tgt := 255) dX10_mending_111 rfl, r_al0 dX10_mending_114, r_getf dX10_mending_115 F10_55, r_bipush dX10_mending_118 kb12, r_il1 dX10_mending_120, r_imul dX10_mending_121, r_iconst dX10_mending_122 ki2, r_il5 dX10_mending_123, r_imul dX10_mending_125, r_iadd dX10_mending_126, r_iald dX10_mending_127, r_is6 dX10_mending_128, r_al0 dX10_mending_130, r_getf dX10_mending_131 F10_55, r_bipush dX10_mending_134 kb12, r_il1 dX10_mending_136, r_imul dX10_mending_137, r_iconst dX10_mending_138 ki2, r_il5 dX10_mending_139, r_imul dX10_mending_141, r_iadd dX10_mending_142, r_iconst dX10_mending_143 ki1, r_iadd dX10_mending_144, r_iald dX10_mending_145, r_is7 dX10_mending_146, r_al0 dX10_mending_148, r_il6 dX10_mending_149, List.cons_append, List.nil_append, Nat.reduceAdd, Option.toList, aI_ok, cat_f, cat_i, cat_n, cat_r, eq_self, g10_24, g10_26, true_and, z0, hM3.r, rd_own hM3.r, hM3.r24, rd_own hM3.r24, hM3.r26, rd_own hM3.r26, e24, e26, ez, nI_clamp (show i < 2 ^ 31 by omega), show (2 : Int32) = nI 2 from rfl, pk_mul, nI_1, s12, nI_clamp (show 12 * i + 2 * x < 2 ^ 31 by omega), nI_clamp (show 12 * i + 2 * x + 1 < 2 ^ 31 by omega), eN1, eN2]
      refine ⟨hin, fun q => absurd ((nI_leI (by omega) (by omega)).mp q) (by omega), fun _ => ⟨vp_in_nI (by omega) (by omega), vp_in_nI (by omega) (by omega), ?_⟩⟩
      have bad : ∀ hm4 u4 A4, MO hm4 m u4 A4 R → KR u3 u4 A3 A4 → sm m (m + 16) hm3 hm4 → ¬ (((0 ≤ va ∧ va < nI n) ∧ (0 ≤ vb ∧ vb < nI n)) ∧ okM (A3 0) L n va.toNatClampNeg vb.toNatClampNeg) →
          E1 X EV (d + 15) 10 0 0 (some .long) false cX10_mending Q 211 [.ref m, .int (nI i), .int wh, .int (u 18), .int ot, .int (nI x), .int va, .int vb, y8] [] 0 0 hm4 hs := by
        intro hm4 u4 A4 hM4 k4 s4 hno
        rw [if_neg hno] at ih
        have := ih hm4 u4 A4 (.int va) (.int vb) (.int 0) hM4 (fun k a1 a2 a3 a4 a5 a6 => (k4.1 k a1 a2 a3 a4 a5 a6).trans (ku k a1 a2 a3 a4 a5 a6)) (fun s b1 b2 b3 b4 b5 b6 b7 b8 => (k4.2 s b2 b3 b4 b5 b6).trans (kA s b1 b2 b3 b4 b5 b6 b7 b8)) ((k4.2 27 (by decide) (by decide) (by decide) (by decide) (by decide)).trans k27) ((k4.2 28 (by decide) (by decide) (by decide) (by decide) (by decide)).trans k28) k4.S (s3.trans s4)
        simp (disch := first | omega | (simp only [List.length_cons, List.length_nil]; omega)) only [r_iconst dX10_mending_211 ki0, r_is8 dX10_mending_212, r_il8 dX10_mending_214, r_if_eq (tgt := 240) dX10_mending_216 rfl, r_al0 dX10_mending_219, r_getf dX10_mending_220 F10_13, r_sipush dX10_mending_223 ks195, r_il6 dX10_mending_226, r_iadd dX10_mending_228, r_dup2_ir dX10_mending_229, r_dup2_l dX10_mending_229, r_iald dX10_mending_230, r_iconst dX10_mending_231 ki1, r_il7 dX10_mending_232, r_ishl dX10_mending_234, r_ior dX10_mending_235, r_iast dX10_mending_236, r_goto (tgt := 249) dX10_mending_237 rfl, r_il4 dX10_mending_240, r_iconst dX10_mending_242 ki1, r_il5 dX10_mending_243, r_ishl dX10_mending_245, r_ior dX10_mending_246, r_is4 dX10_mending_247, r_ii5 dX10_mending_249 kn1, r_gotoB (tgt := 99) dX10_mending_252 rfl, List.cons_append, List.nil_append, Nat.reduceAdd, Option.toList, aI_ok, cat_f, cat_i, cat_n, cat_r, eq_self, g10_0, pk_un, pk_us, rd_up_eq, rd_up_ne, sI_ok, true_and, up_eq, up_ne, up_up, z0]
        refine ⟨fun _ => ?_, fun q => absurd trivial q⟩
        try simp (disch := omega) only [E2, nI_1, nI_add, nI_leI, nI_ltI, nI_eq, nI_clamp]
        exact this
      refine r_iv2 dX10_mending_151 M10_229 Y182 O182 (Nat.le_of_ble_eq_true rfl) (rcv_own hM3.r) (Nat.le_refl _) (Nat.le_refl _) ?_
      refine m_isStroke hM3 en3 hn12 ?_
      simp only [r_if_eqB (tgt := 211) dX10_mending_154 rfl, r_al0 dX10_mending_157, r_il7 dX10_mending_158, List.cons_append, List.nil_append, Nat.reduceAdd, Option.toList, z0]
      refine ⟨fun c => ?_, fun c => ?_⟩
      · try simp (disch := omega) only [E2, nI_1, nI_add, nI_leI, nI_ltI, nI_eq, nI_clamp]
        exact bad hm3 u3 A3 hM3 KM.rf.kr sm.rf (fun q => c q.1.1)
      have c := Classical.not_not.mp c
      refine r_iv2 dX10_mending_160 M10_229 Y182 O182 (Nat.le_of_ble_eq_true rfl) (rcv_own hM3.r) (Nat.le_refl _) (Nat.le_refl _) ?_
      refine m_isStroke hM3 en3 hn12 ?_
      simp only [r_if_eqB (tgt := 211) dX10_mending_163 rfl, r_al0 dX10_mending_166, r_il6 dX10_mending_167, r_il7 dX10_mending_169, List.cons_append, List.nil_append, Nat.reduceAdd, Option.toList, z0]
      refine ⟨fun c2 => ?_, fun c2 => ?_⟩
      · try simp (disch := omega) only [E2, nI_1, nI_add, nI_leI, nI_ltI, nI_eq, nI_clamp]
        exact bad hm3 u3 A3 hM3 KM.rf.kr sm.rf (fun q => c2 q.1.2)
      have c2 := Classical.not_not.mp c2
      obtain ⟨a, ha, rfl⟩ := ix (by omega) c
      obtain ⟨b, hb, rfl⟩ := ix (by omega) c2
      rw [nI_clamp (by omega), nI_clamp (by omega)] at ih bad
      have hin2 := vp_in_nI (show 195 + a < 217 by omega) (by omega)
      refine r_iv3 dX10_mending_171 M10_175 Y188 O188 (Nat.le_of_ble_eq_true rfl) (rcv_own hM3.r) (Nat.le_refl _) (Nat.le_refl _) ?_
      refine m_cross hM3 (by omega) (by omega) (hL3 a ha).1 (hL3 a ha).2 (hL3 b hb).1 (hL3 b hb).2 ?_
      simp only [r_if_eqB (tgt := 211) dX10_mending_174 rfl, r_al0 dX10_mending_177, r_getf dX10_mending_178 F10_13, r_sipush dX10_mending_181 ks195, r_il6 dX10_mending_184, r_iadd dX10_mending_186, r_iald dX10_mending_187, r_il7 dX10_mending_188, List.cons_append, List.nil_append, Nat.reduceAdd, Option.toList, aI_ok, g10_0, z0, hM3.r, rd_own hM3.r, hM3.r0, rd_own hM3.r0, s195, nI_clamp (show 195 + a < 2 ^ 31 by omega)]
      refine ⟨fun c3 => ?_, fun c3 => ⟨hin2, ?_⟩⟩
      · try simp (disch := omega) only [E2, nI_1, nI_add, nI_leI, nI_ltI, nI_eq, nI_clamp]
        exact bad hm3 u3 A3 hM3 KM.rf.kr sm.rf (fun q => c3 q.2.1.1)
      have c3 : a ≠ b ∧ cmn (A3 0) L a b ≠ -1 := Classical.not_not.mp c3
      refine r_ist2 dX10_mending_190 M10_178 Y156 (Nat.le_of_ble_eq_true rfl) (Nat.le_refl _) (Nat.le_refl _) ?_
      refine m_has (by omega) ?_
      simp only [r_if_neB (tgt := 211) dX10_mending_193 rfl, r_al0 dX10_mending_196, r_il6 dX10_mending_197, r_il7 dX10_mending_199, List.cons_append, List.nil_append, Nat.reduceAdd, Option.toList, z0]
      refine ⟨fun c4 => ?_, fun c4 => ?_⟩
      · try simp (disch := omega) only [E2, nI_1, nI_add, nI_leI, nI_ltI, nI_eq, nI_clamp]
        exact bad hm3 u3 A3 hM3 KM.rf.kr sm.rf (fun q => c4 q.2.1.2)
      have c4 : ¬ bt (A3 0 (195 + a)) b = true := Classical.not_not.mp c4
      refine r_iv3 dX10_mending_201 M10_181 Y194 O194 (Nat.le_of_ble_eq_true rfl) (rcv_own hM3.r) (Nat.le_refl _) (Nat.le_refl _) ?_
      refine m_whyOver hM3 (n := n) en3 hn12 ha hb (fun e => c3.1 e.symm) (Bool.not_eq_true _ ▸ c4) (fun hc hm4 u4 A4 D eD d1 d2 hM4 k4 e18 hR s4 => ?_) (fun hc hm4 u4 A4 hM4 k4 s4 => ?_)
      · simp (disch := first | omega | (simp only [List.length_cons, List.length_nil]; omega)) only [r_iconst dX10_mending_99 ki2, r_il5 dX10_mending_100, r_imul dX10_mending_102, r_iconst dX10_mending_103 ki1, r_iadd dX10_mending_104, r_al0 dX10_mending_105, r_getf dX10_mending_106 F10_49, r_il1 dX10_mending_109, r_iald dX10_mending_110, r_ic_ge (tgt := 255) dX10_mending_111 rfl, r_al0 dX10_mending_114, r_getf dX10_mending_115 F10_55, r_bipush dX10_mending_118 kb12, r_il1 dX10_mending_120, r_imul dX10_mending_121, r_iconst dX10_mending_122 ki2, r_il5 dX10_mending_123, r_imul dX10_mending_125, r_iadd dX10_mending_126, r_iald dX10_mending_127, r_is6 dX10_mending_128, r_al0 dX10_mending_130, r_getf dX10_mending_131 F10_55, r_bipush dX10_mending_134 kb12, r_il1 dX10_mending_136, r_imul dX10_mending_137, r_iconst dX10_mending_138 ki2, r_il5 dX10_mending_139, r_imul dX10_mending_141, r_iadd dX10_mending_142, r_iconst dX10_mending_143 ki1, r_iadd dX10_mending_144, r_iald dX10_mending_145, r_is7 dX10_mending_146, r_al0 dX10_mending_148, r_il6 dX10_mending_149, r_if_neB (tgt := 211) dX10_mending_204 rfl, r_iconst dX10_mending_207 ki1, r_goto (tgt := 212) dX10_mending_208 rfl, r_is8 dX10_mending_212, r_il8 dX10_mending_214, r_if_eq (tgt := 240) dX10_mending_216 rfl, r_al0 dX10_mending_219, r_getf dX10_mending_220 F10_13, r_sipush dX10_mending_223 ks195, r_il6 dX10_mending_226, r_iadd dX10_mending_228, r_dup2_ir dX10_mending_229, r_dup2_l dX10_mending_229, r_iald dX10_mending_230, r_iconst dX10_mending_231 ki1, r_il7 dX10_mending_232, r_ishl dX10_mending_234, r_ior dX10_mending_235, r_iast dX10_mending_236, r_goto (tgt := 249) dX10_mending_237 rfl, r_il4 dX10_mending_240, r_iconst dX10_mending_242 ki1, r_il5 dX10_mending_243, r_ishl dX10_mending_245, r_ior dX10_mending_246, r_is4 dX10_mending_247, r_ii5 dX10_mending_249 kn1, r_goto (tgt := 99) dX10_mending_252 rfl, r_al0 dX10_mending_255, List.cons_append, List.nil_append, Nat.reduceAdd, Option.toList, aI_ok, cat_f, cat_i, cat_n, cat_r, eq_self, g10_0, g10_24, g10_26, pk_un, pk_us, rd_up_eq, rd_up_ne, sI_ok, true_and, up_eq, up_ne, up_up, z0]
        refine ⟨fun _ => ?_, fun q => absurd (Classical.not_not.mp q) (by decide)⟩
        try simp (disch := omega) only [E2, nI_1, nI_add, nI_leI, nI_ltI, nI_eq, nI_clamp]
        exact bad hm4 u4 A4 hM4 k4 s4 (fun q => q.2.2.1 hc)
      · by_cases hw : wyM (upd (A3 0) (195 + a) (A3 0 (195 + a) ||| sb b)) n = 0
        · rw [if_pos hw]
          simp (disch := first | omega | (simp only [List.length_cons, List.length_nil]; omega)) only [r_iconst dX10_mending_99 ki2, r_il5 dX10_mending_100, r_imul dX10_mending_102, r_iconst dX10_mending_103 ki1, r_iadd dX10_mending_104, r_al0 dX10_mending_105, r_getf dX10_mending_106 F10_49, r_il1 dX10_mending_109, r_iald dX10_mending_110, r_ic_ge (tgt := 255) dX10_mending_111 rfl, r_al0 dX10_mending_114, r_getf dX10_mending_115 F10_55, r_bipush dX10_mending_118 kb12, r_il1 dX10_mending_120, r_imul dX10_mending_121, r_iconst dX10_mending_122 ki2, r_il5 dX10_mending_123, r_imul dX10_mending_125, r_iadd dX10_mending_126, r_iald dX10_mending_127, r_is6 dX10_mending_128, r_al0 dX10_mending_130, r_getf dX10_mending_131 F10_55, r_bipush dX10_mending_134 kb12, r_il1 dX10_mending_136, r_imul dX10_mending_137, r_iconst dX10_mending_138 ki2, r_il5 dX10_mending_139, r_imul dX10_mending_141, r_iadd dX10_mending_142, r_iconst dX10_mending_143 ki1, r_iadd dX10_mending_144, r_iald dX10_mending_145, r_is7 dX10_mending_146, r_al0 dX10_mending_148, r_il6 dX10_mending_149, r_if_neB (tgt := 211) dX10_mending_204 rfl, r_iconst dX10_mending_207 ki1, r_goto (tgt := 212) dX10_mending_208 rfl, r_is8 dX10_mending_212, r_il8 dX10_mending_214, r_if_eq (tgt := 240) dX10_mending_216 rfl, r_al0 dX10_mending_219, r_getf dX10_mending_220 F10_13, r_sipush dX10_mending_223 ks195, r_il6 dX10_mending_226, r_iadd dX10_mending_228, r_dup2_ir dX10_mending_229, r_dup2_l dX10_mending_229, r_iald dX10_mending_230, r_iconst dX10_mending_231 ki1, r_il7 dX10_mending_232, r_ishl dX10_mending_234, r_ior dX10_mending_235, r_iast dX10_mending_236, r_goto (tgt := 249) dX10_mending_237 rfl, r_il4 dX10_mending_240, r_iconst dX10_mending_242 ki1, r_il5 dX10_mending_243, r_ishl dX10_mending_245, r_ior dX10_mending_246, r_is4 dX10_mending_247, r_ii5 dX10_mending_249 kn1, r_goto (tgt := 99) dX10_mending_252 rfl, r_al0 dX10_mending_255, List.cons_append, List.nil_append, Nat.reduceAdd, Option.toList, aI_ok, cat_f, cat_i, cat_n, cat_r, eq_self, g10_0, g10_24, g10_26, pk_un, pk_us, rd_up_eq, rd_up_ne, sI_ok, true_and, up_eq, up_ne, up_up, z0]
          refine ⟨fun _ => ?_, fun q => absurd (Classical.not_not.mp q) (by decide)⟩
          try simp (disch := omega) only [E2, nI_1, nI_add, nI_leI, nI_ltI, nI_eq, nI_clamp]
          exact bad hm4 u4 A4 hM4 k4.kr s4 (fun q => q.2.2.2 hw)
        · rw [if_neg hw]
          rw [if_pos ⟨⟨c, c2⟩, ⟨c3, c4⟩, hc, hw⟩] at ih
          have e40 : A4 0 = A3 0 := k4.S
          have hM5 := hM4.w0 (tldM (A3 0) a b)
          have := ih _ u4 _ (.int (nI a)) (.int (nI b)) (.int 1) hM5 (fun k a1 a2 a3 a4 a5 a6 => (k4.1 k a1 a2 a4 a5 a6).trans (ku k a1 a2 a3 a4 a5 a6)) (fun s b1 b2 b3 b4 b5 b6 b7 b8 => by rw [vu_ne b1]; exact (k4.2 s b2 b3 b5 b6).trans (kA s b1 b2 b3 b4 b5 b6 b7 b8)) ((k4.2 27 (by decide) (by decide) (by decide) (by decide)).trans k27) ((k4.2 28 (by decide) (by decide) (by decide) (by decide)).trans k28) (vu_eq _ _ _) ((s3.trans s4).up (by omega))
          simp (disch := first | omega | (simp only [List.length_cons, List.length_nil]; omega)) only [r_if_neB (tgt := 211) dX10_mending_204 rfl, r_iconst dX10_mending_207 ki1, r_goto (tgt := 212) dX10_mending_208 rfl, r_is8 dX10_mending_212, r_il8 dX10_mending_214, r_if_eq (tgt := 240) dX10_mending_216 rfl, r_al0 dX10_mending_219, r_getf dX10_mending_220 F10_13, r_sipush dX10_mending_223 ks195, r_il6 dX10_mending_226, r_iadd dX10_mending_228, r_dup2_ir dX10_mending_229, r_dup2_l dX10_mending_229, r_iald dX10_mending_230, r_iconst dX10_mending_231 ki1, r_il7 dX10_mending_232, r_ishl dX10_mending_234, r_ior dX10_mending_235, r_iast dX10_mending_236, r_goto (tgt := 249) dX10_mending_237 rfl, r_il4 dX10_mending_240, r_iconst dX10_mending_242 ki1, r_il5 dX10_mending_243, r_ishl dX10_mending_245, r_ior dX10_mending_246, r_is4 dX10_mending_247, r_ii5 dX10_mending_249 kn1, r_gotoB (tgt := 99) dX10_mending_252 rfl, List.cons_append, List.nil_append, Nat.reduceAdd, Option.toList, aI_ok, cat_f, cat_i, cat_n, cat_r, eq_self, g10_0, pk_un, pk_us, rd_up_eq, rd_up_ne, sI_ok, true_and, up_eq, up_ne, up_up, z0, hM4.r, rd_own hM4.r, hM4.r0, rd_own hM4.r0, e40, s195, nI_clamp (show 195 + a < 2 ^ 31 by omega)]
          refine ⟨fun q => absurd trivial q, fun _ => ⟨fun q => absurd q (by decide), fun _ => ⟨hin2, hin2, ?_⟩⟩⟩
          try simp (disch := omega) only [E2, nI_1, nI_add, nI_leI, nI_ltI, nI_eq, nI_clamp]
          exact this
  · intro x hx ih hm2 F G hM2 hFG s2
    have f0 : (va_up (va_up A 27 F) 28 G) 0 = A 0 := rfl
    have f16 : (va_up (va_up A 27 F) 28 G) 16 = A 16 := rfl
    have f27 : (va_up (va_up A 27 F) 28 G) 27 = F := rfl
    have f28 : (va_up (va_up A 27 F) 28 G) 28 = G := vu_eq _ _ _
    have hM7 := hM2.w27 (upd F x (A 0 (195 + x)))
    have hM8 := hM7.w28 (upd G x (A 16 x))
    simp (disch := first | omega | (simp only [List.length_cons, List.length_nil]; omega)) only [r_il4 dX10_mending_48, r_bipush dX10_mending_50 kb12, r_ic_ge (tgt := 93) dX10_mending_52 rfl, r_al0 dX10_mending_55, r_getf dX10_mending_56 F10_58, r_il4 dX10_mending_59, r_al0 dX10_mending_61, r_getf dX10_mending_62 F10_13, r_sipush dX10_mending_65 ks195, r_il4 dX10_mending_68, r_iadd dX10_mending_70, r_iald dX10_mending_71, r_iast dX10_mending_72, r_al0 dX10_mending_73, r_getf dX10_mending_74 F10_61, r_il4 dX10_mending_77, r_al0 dX10_mending_79, r_getf dX10_mending_80 F10_36, r_il4 dX10_mending_83, r_iald dX10_mending_85, r_iast dX10_mending_86, r_ii4 dX10_mending_87 kn1, r_gotoB (tgt := 48) dX10_mending_90 rfl, r_iconst dX10_mending_93 ki0, r_is4 dX10_mending_94, r_iconst dX10_mending_96 ki0, r_is5 dX10_mending_97, List.cons_append, List.nil_append, Nat.reduceAdd, Option.toList, aI_ok, cat_f, cat_i, cat_n, cat_r, eq_self, g10_0, g10_16, g10_27, g10_28, pk_un, pk_us, rd_up_eq, rd_up_ne, sI_ok, true_and, up_eq, up_ne, up_up, z0, hM2.r, rd_own hM2.r, hM2.r0, rd_own hM2.r0, hM2.r16, rd_own hM2.r16, hM2.r27, rd_own hM2.r27, hM2.r28, rd_own hM2.r28, f0, f16, f27, f28, s195, nI_clamp (show 195 + x < 2 ^ 31 by omega), nI_clamp (show x < 2 ^ 31 by omega)]
    refine ⟨fun q => absurd ((nI_leI (a := 12) (by omega) (by omega)).mp q) (by omega), fun _ => ⟨vp_in_nI (by omega) (by omega), vp_in_nI (by omega) (by omega), vp_in_nI (by omega) (by omega), vp_in_nI (by omega) (by omega), ?_⟩⟩
    try simp (disch := omega) only [E2, nI_1, nI_add, nI_leI, nI_ltI, nI_eq, nI_clamp]
    have e9 : va_up (va_up (va_up (va_up A 27 F) 28 G) 27 (upd F x (A 0 (195 + x)))) 28 (upd G x (A 16 x)) = va_up (va_up A 27 (upd F x (A 0 (195 + x)))) 28 (upd G x (A 16 x)) := by
      funext s
      by_cases h16 : s = 28
      · rw [h16, vu_eq, vu_eq]
      · rw [vu_ne h16, vu_ne h16]
        by_cases hs0 : s = 27
        · rw [hs0, vu_eq, vu_eq]
        · rw [vu_ne hs0, vu_ne h16, vu_ne hs0, vu_ne hs0]
    rw [e9] at hM8
    refine ih _ _ _ hM8 (fun j hj => ?_) ((s2.up (by omega)).up (by omega))
    by_cases hj2 : j = x
    · rw [hj2, pk_us, pk_us]; exact ⟨rfl, rfl⟩
    · rw [pk_un hj2, pk_un hj2]; exact hFG j (by omega)
end M25
