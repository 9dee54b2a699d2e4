/-! ===== the model: words and runs; the model's array seen as a script ===== -/
def sV (S : Nat → Int32) : Nat → Nat → Int32
  | 4 => fun k => S (55 + 2 * k) + 96
  | 5 => fun k => S (55 + 2 * k + 1)
  | 6 => fun k => S (207 + k)
  | 7 => fun k => S (75 + 2 * k)
  | 8 => fun k => S (75 + 2 * k + 1)
  | 10 => fun k => S (91 + 7 * k)
  | 11 => fun j => S (91 + 7 * (j / 6) + 1 + j % 6)
  | 12 => fun k => S (175 + 2 * k)
  | 13 => fun k => S (175 + 2 * k + 1)
  | _ => fun _ => 0
theorem sV11 {S : Nat → Int32} {w i : Nat} (hi : i < 6) : sV S 11 (6 * w + i) = S (91 + 7 * w + 1 + i) := by
  show S (91 + 7 * ((6 * w + i) / 6) + 1 + (6 * w + i) % 6) = _
  rw [show (6 * w + i) / 6 = w by omega, show (6 * w + i) % 6 = i by omega]
/-- the model's script is in order -/
def WS (S : Nat → Int32) (nl np nw nr : Nat) : Prop := (S 3 = nI nl ∧ nl ≤ 10) ∧ (S 4 = nI np ∧ np ≤ 8) ∧ (S 5 = nI nw ∧ nw ≤ 12) ∧ (S 6 = nI nr ∧ nr ≤ 4) ∧
  (∀ r, r < nr → ∃ f l, S (175 + 2 * r) = nI f ∧ S (175 + 2 * r + 1) = nI l ∧ f + l ≤ np ∧ 1 ≤ l ∧ l ≤ 6) ∧
  (∀ w, w < nw → ∃ l, 1 ≤ l ∧ l ≤ 6 ∧ S (91 + 7 * w) = nI l ∧ ∀ i, i < l → ∃ t, t < nl ∧ S (91 + 7 * w + 1 + i) = nI t) ∧
  (∀ k, k < nl → ∃ v, 1 ≤ v ∧ v ≤ 99 ∧ S (207 + k) = nI v)
/-- the run of a place; none -/
abbrev runP (S : Nat → Int32) (q r : Nat) : Prop := (S (175 + 2 * r)).toNatClampNeg ≤ q ∧ q < (S (175 + 2 * r)).toNatClampNeg + (S (175 + 2 * r + 1)).toNatClampNeg
def runM (S : Nat → Int32) (nr q : Nat) : Int32 := fst1 (runP S q) nr
def surR (S F : Nat → Int32) (nw q r : Nat) : Int32 := lowv (sV S) F r (S (175 + 2 * r)).toNatClampNeg (S (175 + 2 * r + 1)).toNatClampNeg q nw
def surM (S F : Nat → Int32) (nw nr q : Nat) : Int32 := if runM S nr q = -1 then F q else surR S F nw q (runM S nr q).toNatClampNeg
theorem wfP_lt {S F : Nat → Int32} {nl np nw nr w r l : Nat} (h : WS S nl np nw nr) (hw : w < nw) (e : S (175 + 2 * r + 1) = nI l) (hl : l ≤ 6) : S (91 + 7 * w) = S (175 + 2 * r + 1) → ∀ i, i < l → ∃ t, t < 10 ∧ S (91 + 7 * w + 1 + i) = nI t := by
  intro e2 i hi
  obtain ⟨l', h1, h2, h3, h4⟩ := h.2.2.2.2.2.1 w hw
  rw [e, h3, nI_eq (by omega) (by omega)] at e2
  obtain ⟨t, ht, et⟩ := h4 i (by omega)
  have := h.1.2
  exact ⟨t, by omega, et⟩

section M14
variable {X : HM} {EV : Nat → Value} {d : Nat} {hm : HM} {hs : Nat} {Q : QT} {m n : Nat} {u : Nat → Int32} {A : Nat → Nat → Int32} {R : Nat → Int64} {nl np nw nr : Nat} {L : Nat → Nat}
theorem m_runOf {q : Nat} (hM : MO hm m u A R) (hr : A 0 6 = nI nr) (hr4 : nr ≤ 4) (hR : ∀ r, r < nr → ∃ f l, A 0 (175 + 2 * r) = nI f ∧ A 0 (175 + 2 * r + 1) = nI l ∧ f + l ≤ np ∧ 1 ≤ l ∧ l ≤ 6) (hp8 : np ≤ 8) (hq : q < 8)
    (hQ : Q (some (.int (runM (A 0) nr q))) hm hs) : CC X EV (d + 2) 226 [.ref m, .int (nI q)] hm hs Q := by
  refine c_of (ls2 := [.ref m, .int (nI q), .null]) Y226 (Nat.le_of_ble_eq_true rfl) rfl I226 ?_
  simp only [r_iconst dX10_runOf_0 ki0, r_is2 dX10_runOf_1, List.cons_append, List.nil_append, Nat.reduceAdd, Option.toList, cat_f, cat_i, cat_n, cat_r, eq_self, true_and, z0]
  suffices H : ∀ k, k ≤ nr → (∀ j, j < k → ¬ runP (A 0) q j) → E1 X EV (d + 1) 10 0 0 (some .int) false cX10_runOf Q 2 [.ref m, .int (nI q), .int (nI k)] [] 0 0 hm hs from H 0 (by omega) (fun j hj => absurd hj (Nat.not_lt_zero j))
  refine up_loop nr _ ?_ ?_
  · intro hno
    simp only [r_il2 dX10_runOf_2, r_al0 dX10_runOf_3, r_getf dX10_runOf_4 F10_13, r_bipush dX10_runOf_7 kb6, r_iald dX10_runOf_9, r_ic_ge (tgt := 72) dX10_runOf_10 rfl, r_il1 dX10_runOf_13, r_i2l dX10_runOf_14, r_al0 dX10_runOf_15, r_getf dX10_runOf_16 F10_13, r_sipush dX10_runOf_19 ks175, r_iconst dX10_runOf_22 ki2, r_il2 dX10_runOf_23, r_imul dX10_runOf_24, r_iadd dX10_runOf_25, r_iald dX10_runOf_26, r_i2l dX10_runOf_27, r_al0 dX10_runOf_28, r_getf dX10_runOf_29 F10_13, r_sipush dX10_runOf_32 ks175, r_iconst dX10_runOf_35 ki2, r_il2 dX10_runOf_36, r_imul dX10_runOf_37, r_iadd dX10_runOf_38, r_iald dX10_runOf_39, r_al0 dX10_runOf_40, r_getf dX10_runOf_41 F10_13, r_sipush dX10_runOf_44 ks175, r_iconst dX10_runOf_47 ki2, r_il2 dX10_runOf_48, r_imul dX10_runOf_49, r_iadd dX10_runOf_50, r_iconst dX10_runOf_51 ki1, r_iadd dX10_runOf_52, r_iald dX10_runOf_53, r_iadd dX10_runOf_54, r_iconst dX10_runOf_55 ki1, r_isub dX10_runOf_56, r_i2l dX10_runOf_57, r_iconst dX10_runOf_72 kim1, r_iret dX10_runOf_73 (Nat.zero_le _) (Nat.zero_le _), List.cons_append, List.nil_append, Nat.reduceAdd, Option.toList, aI_ok, g10_0, z0, hM.r, rd_own hM.r, hM.r0, rd_own hM.r0, vs6, ck6, hr, true_and]
    rw [runM, fst1_none hno] at hQ
    exact ⟨fun _ => hQ, fun h => absurd (Int32.le_refl _) h⟩
  · intro k hk ih hno
    obtain ⟨f, l, ef, el, h1, h2, h3⟩ := hR k hk
    simp only [r_il2 dX10_runOf_2, r_al0 dX10_runOf_3, r_getf dX10_runOf_4 F10_13, r_bipush dX10_runOf_7 kb6, r_iald dX10_runOf_9, r_ic_ge (tgt := 72) dX10_runOf_10 rfl, r_il1 dX10_runOf_13, r_i2l dX10_runOf_14, r_al0 dX10_runOf_15, r_getf dX10_runOf_16 F10_13, r_sipush dX10_runOf_19 ks175, r_iconst dX10_runOf_22 ki2, r_il2 dX10_runOf_23, r_imul dX10_runOf_24, r_iadd dX10_runOf_25, r_iald dX10_runOf_26, r_i2l dX10_runOf_27, r_al0 dX10_runOf_28, r_getf dX10_runOf_29 F10_13, r_sipush dX10_runOf_32 ks175, r_iconst dX10_runOf_35 ki2, r_il2 dX10_runOf_36, r_imul dX10_runOf_37, r_iadd dX10_runOf_38, r_iald dX10_runOf_39, r_al0 dX10_runOf_40, r_getf dX10_runOf_41 F10_13, r_sipush dX10_runOf_44 ks175, r_iconst dX10_runOf_47 ki2, r_il2 dX10_runOf_48, r_imul dX10_runOf_49, r_iadd dX10_runOf_50, r_iconst dX10_runOf_51 ki1, r_iadd dX10_runOf_52, r_iald dX10_runOf_53, r_iadd dX10_runOf_54, r_iconst dX10_runOf_55 ki1, r_isub dX10_runOf_56, r_i2l dX10_runOf_57, r_iconst dX10_runOf_72 kim1, r_iret dX10_runOf_73 (Nat.zero_le _) (Nat.zero_le _), List.cons_append, List.nil_append, Nat.reduceAdd, Option.toList, aI_ok, g10_0, z0, hM.r, rd_own hM.r, hM.r0, rd_own hM.r0, vs6, ck6, hr, true_and, s175, nI_1, nI_clamp (show 175 + 2 * k < 2 ^ 31 by omega), nI_clamp (show 175 + 2 * k + 1 < 2 ^ 31 by omega), ef, el]
    refine ⟨fun h => absurd ((nI_leI (by omega) (by omega)).mp h) (by omega), fun _ => ⟨vp_in_nI (by omega) (by omega), vp_in_nI (by omega) (by omega), vp_in_nI (by omega) (by omega), ?_⟩⟩
    refine r_ist3 dX10_runOf_58 M10_83 Y155 (Nat.le_of_ble_eq_true rfl) (Nat.le_refl _) (Nat.le_refl _) ?_
    refine m_in ?_
    rw [nI_add]
    simp only [ltp (show f + l ≤ 1000 by omega)]
    simp only [r_if_eq (tgt := 66) dX10_runOf_61 rfl, r_il2 dX10_runOf_64, r_iret dX10_runOf_65 (Nat.zero_le _) (Nat.zero_le _), r_ii2 dX10_runOf_66 kn1, r_gotoB (tgt := 2) dX10_runOf_69 rfl, List.cons_append, List.nil_append, Nat.reduceAdd, Option.toList, cat_f, cat_i, cat_n, cat_r, eq_self, true_and, z0]
    have hc : runP (A 0) q k ↔ (nI f ≤ nI q ∧ nI q < nI (f + l)) := by
      unfold runP
      rw [ef, el, nI_clamp (by omega), nI_clamp (by omega), nI_leI (by omega) (by omega), nI_ltI (by omega) (by omega)]
    refine ⟨fun h => ?_, fun h => ?_⟩
    · simp (disch := omega) only [E2, nI_1, nI_add, nI_leI, nI_ltI, nI_eq, nI_clamp]
      exact ih (fun j hj => by
        rcases Nat.lt_or_ge j k with h' | h'
        · exact hno j h'
        · rw [show j = k by omega]; exact fun z => h (hc.mp z))
    · rw [runM, fst1_some (by omega) hk (hc.mpr (Classical.not_not.mp h)) hno] at hQ
      exact hQ
theorem m_fitsRun {w r f l : Nat} (hM : MO hm m u A R) (hw : w < 12) (hr : r < 4) (e1 : A 0 (175 + 2 * r) = nI f) (e2 : A 0 (175 + 2 * r + 1) = nI l) (h8 : f + l ≤ 8) (hl6 : l ≤ 6) (hlt : A 0 (91 + 7 * w) = A 0 (175 + 2 * r + 1) → ∀ i, i < l → ∃ t, t < 10 ∧ A 0 (91 + 7 * w + 1 + i) = nI t)
    (hQ : Q (some (.int (if wfP (sV (A 0)) (A 21) r f l w then 1 else 0))) hm hs) : CC X EV (d + 2) 228 [.ref m, .int (nI w), .int (nI r)] hm hs Q := by
  have hQ := zq hQ
  refine c_of (ls2 := [.ref m, .int (nI w), .int (nI r), .null, .null]) Y228 (Nat.le_of_ble_eq_true rfl) rfl I228 ?_
  simp only [r_al0 dX10_fitsRun_0, r_getf dX10_fitsRun_1 F10_13, r_bipush dX10_fitsRun_4 kb91, r_bipush dX10_fitsRun_6 kb7, r_il1 dX10_fitsRun_8, r_imul dX10_fitsRun_9, r_iadd dX10_fitsRun_10, r_iald dX10_fitsRun_11, r_is3 dX10_fitsRun_12, r_il3 dX10_fitsRun_13, r_al0 dX10_fitsRun_14, r_getf dX10_fitsRun_15 F10_13, r_sipush dX10_fitsRun_18 ks175, r_iconst dX10_fitsRun_21 ki2, r_il2 dX10_fitsRun_22, r_imul dX10_fitsRun_23, r_iadd dX10_fitsRun_24, r_iconst dX10_fitsRun_25 ki1, r_iadd dX10_fitsRun_26, r_iald dX10_fitsRun_27, r_ic_eq (tgt := 33) dX10_fitsRun_28 rfl, r_iconst dX10_fitsRun_31 ki0, r_zret0 dX10_fitsRun_32 (Nat.zero_le _) (Nat.zero_le _), r_zret1 dX10_fitsRun_32 (Nat.zero_le _) (Nat.zero_le _), r_zretc dX10_fitsRun_32 (Nat.zero_le _) (Nat.zero_le _), r_iconst dX10_fitsRun_33 ki0, r_is4 dX10_fitsRun_34, List.cons_append, List.nil_append, Nat.reduceAdd, Option.toList, aI_ok, cat_f, cat_i, cat_n, cat_r, eq_self, g10_0, true_and, z0, hM.r, rd_own hM.r, hM.r0, rd_own hM.r0, s91, s175, nI_1, nI_clamp (show 91 + 7 * w < 2 ^ 31 by omega), nI_clamp (show 175 + 2 * r + 1 < 2 ^ 31 by omega)]
  refine ⟨vp_in_nI (by omega) (by omega), vp_in_nI (by omega) (by omega), fun he => ?_, fun he => hQ.2 (fun z => he z.1)⟩
  have hlt := hlt he
  rw [he, e2]
  suffices H : ∀ k, k ≤ l → (∀ j, j < k → bt (A 21 (f + j)) (sV (A 0) 11 (6 * w + j)).toNatClampNeg = true) → E1 X EV (d + 1) 10 0 0 (some .boolean) false cX10_fitsRun Q 36 [.ref m, .int (nI w), .int (nI r), .int (nI l), .int (nI k)] [] 0 0 hm hs from H 0 (by omega) (fun j hj => absurd hj (Nat.not_lt_zero j))
  refine up_loop l _ ?_ ?_
  · intro hall
    simp only [r_il4 dX10_fitsRun_36, r_il3 dX10_fitsRun_38, r_ic_ge (tgt := 93) dX10_fitsRun_39 rfl, r_al0 dX10_fitsRun_42, r_getf dX10_fitsRun_43 F10_46, r_al0 dX10_fitsRun_46, r_getf dX10_fitsRun_47 F10_13, r_sipush dX10_fitsRun_50 ks175, r_iconst dX10_fitsRun_53 ki2, r_il2 dX10_fitsRun_54, r_imul dX10_fitsRun_55, r_iadd dX10_fitsRun_56, r_iald dX10_fitsRun_57, r_il4 dX10_fitsRun_58, r_iadd dX10_fitsRun_60, r_iald dX10_fitsRun_61, r_al0 dX10_fitsRun_62, r_getf dX10_fitsRun_63 F10_13, r_bipush dX10_fitsRun_66 kb91, r_bipush dX10_fitsRun_68 kb7, r_il1 dX10_fitsRun_70, r_imul dX10_fitsRun_71, r_iadd dX10_fitsRun_72, r_iconst dX10_fitsRun_73 ki1, r_iadd dX10_fitsRun_74, r_il4 dX10_fitsRun_75, r_iadd dX10_fitsRun_77, r_iald dX10_fitsRun_78, r_iconst dX10_fitsRun_93 ki1, r_zret0 dX10_fitsRun_94 (Nat.zero_le _) (Nat.zero_le _), r_zret1 dX10_fitsRun_94 (Nat.zero_le _) (Nat.zero_le _), r_zretc dX10_fitsRun_94 (Nat.zero_le _) (Nat.zero_le _), List.cons_append, List.nil_append, Nat.reduceAdd, Option.toList, aI_ok, g10_0, g10_21, z0]
    exact ⟨fun _ => hQ.1 ⟨he, hall⟩, fun h => absurd (Int32.le_refl _) h⟩
  · intro k hk ih hall
    obtain ⟨t, ht, et⟩ := hlt k hk
    have ev : sV (A 0) 11 (6 * w + k) = nI t := (sV11 (by omega)).trans et
    simp only [r_il4 dX10_fitsRun_36, r_il3 dX10_fitsRun_38, r_ic_ge (tgt := 93) dX10_fitsRun_39 rfl, r_al0 dX10_fitsRun_42, r_getf dX10_fitsRun_43 F10_46, r_al0 dX10_fitsRun_46, r_getf dX10_fitsRun_47 F10_13, r_sipush dX10_fitsRun_50 ks175, r_iconst dX10_fitsRun_53 ki2, r_il2 dX10_fitsRun_54, r_imul dX10_fitsRun_55, r_iadd dX10_fitsRun_56, r_iald dX10_fitsRun_57, r_il4 dX10_fitsRun_58, r_iadd dX10_fitsRun_60, r_iald dX10_fitsRun_61, r_al0 dX10_fitsRun_62, r_getf dX10_fitsRun_63 F10_13, r_bipush dX10_fitsRun_66 kb91, r_bipush dX10_fitsRun_68 kb7, r_il1 dX10_fitsRun_70, r_imul dX10_fitsRun_71, r_iadd dX10_fitsRun_72, r_iconst dX10_fitsRun_73 ki1, r_iadd dX10_fitsRun_74, r_il4 dX10_fitsRun_75, r_iadd dX10_fitsRun_77, r_iald dX10_fitsRun_78, r_iconst dX10_fitsRun_93 ki1, r_zret0 dX10_fitsRun_94 (Nat.zero_le _) (Nat.zero_le _), r_zret1 dX10_fitsRun_94 (Nat.zero_le _) (Nat.zero_le _), r_zretc dX10_fitsRun_94 (Nat.zero_le _) (Nat.zero_le _), List.cons_append, List.nil_append, Nat.reduceAdd, Option.toList, aI_ok, g10_0, g10_21, z0, hM.r, rd_own hM.r, hM.r0, rd_own hM.r0, hM.r21, rd_own hM.r21, s91, s175, nI_1, nI_add, e1, nI_clamp (show 175 + 2 * r < 2 ^ 31 by omega), nI_clamp (show 91 + 7 * w + 1 + k < 2 ^ 31 by omega), nI_clamp (show f + k < 2 ^ 31 by omega), et]
    refine ⟨fun h => absurd ((nI_leI (by omega) (by omega)).mp h) (by omega), fun _ => ⟨vp_in_nI (by omega) (by omega), vp_in_nI (by omega) (by omega), vp_in_nI (by omega) (by omega), ?_⟩⟩
    refine r_ist2 dX10_fitsRun_79 M10_178 Y156 (Nat.le_of_ble_eq_true rfl) (Nat.le_refl _) (Nat.le_refl _) ?_
    refine m_has (by omega) ?_
    simp only [r_if_ne (tgt := 87) dX10_fitsRun_82 rfl, r_iconst dX10_fitsRun_85 ki0, r_zret0 dX10_fitsRun_86 (Nat.zero_le _) (Nat.zero_le _), r_zret1 dX10_fitsRun_86 (Nat.zero_le _) (Nat.zero_le _), r_zretc dX10_fitsRun_86 (Nat.zero_le _) (Nat.zero_le _), r_ii4 dX10_fitsRun_87 kn1, r_gotoB (tgt := 36) dX10_fitsRun_90 rfl, List.cons_append, List.nil_append, Nat.reduceAdd, Option.toList, cat_f, cat_i, cat_n, cat_r, eq_self, true_and, z0]
    refine ⟨fun h => ?_, fun h => ?_⟩
    · simp (disch := omega) only [E2, nI_1, nI_add, nI_leI, nI_ltI, nI_eq, nI_clamp]
      exact ih (fun j hj => by
        rcases Nat.lt_or_ge j k with h' | h'
        · exact hall j h'
        · rw [show j = k by omega, ev, nI_clamp (by omega)]; exact Classical.not_not.mp h)
    · refine hQ.2 (fun z => h ?_)
      have := z.2 k hk
      rw [ev, nI_clamp (by omega)] at this
      exact fun hh => hh this
theorem m_sureOf {q : Nat} (hM : MO hm m u A R) (hW : WS (A 0) nl np nw nr) (hq : q < np) (hQ : Q (some (.int (surM (A 0) (A 21) nw nr q))) hm hs) : CC X EV (d + 3) 229 [.ref m, .int (nI q)] hm hs Q := by
  obtain ⟨⟨hl, hl10⟩, ⟨hp, hp8⟩, ⟨hw, hw12⟩, ⟨hr, hr4⟩, hR, -, -⟩ := id hW
  refine c_of (ls2 := [.ref m, .int (nI q), .null, .null, .null]) Y229 (Nat.le_of_ble_eq_true rfl) rfl I229 ?_
  simp only [r_al0 dX10_sureOf_0, r_il1 dX10_sureOf_1, List.cons_append, List.nil_append, Nat.reduceAdd, Option.toList, z0]
  refine r_iv2 dX10_sureOf_2 M10_187 Y226 O226 (Nat.le_of_ble_eq_true rfl) (rcv_own hM.r) (Nat.le_refl _) (Nat.le_refl _) ?_
  refine m_runOf hM hr hr4 hR hp8 (by omega) ?_
  unfold surM at hQ
  rcases fst1_cases (runP (A 0) q) nr with e | ⟨r, hrr, e, hrp⟩
  · rw [show runM (A 0) nr q = -1 from e] at hQ ⊢
    rw [if_pos rfl] at hQ
    simp only [r_is2 dX10_sureOf_5, r_il2 dX10_sureOf_6, r_iconst dX10_sureOf_7 kim1, r_ic_ne (tgt := 18) dX10_sureOf_8 rfl, r_al0 dX10_sureOf_11, r_getf dX10_sureOf_12 F10_46, r_il1 dX10_sureOf_15, r_iald dX10_sureOf_16, r_iret dX10_sureOf_17 (Nat.zero_le _) (Nat.zero_le _), r_iconst dX10_sureOf_18 ki0, r_is3 dX10_sureOf_19, r_iconst dX10_sureOf_20 ki0, r_is4 dX10_sureOf_21, List.cons_append, List.nil_append, Nat.reduceAdd, Option.toList, aI_ok, cat_f, cat_i, cat_n, cat_r, eq_self, g10_21, true_and, z0, hM.r, rd_own hM.r, hM.r21, rd_own hM.r21, nI_clamp (show q < 2 ^ 31 by omega)]
    exact ⟨fun h => absurd trivial h, fun _ => ⟨vp_in_nI (by omega) (by omega), hQ⟩⟩
  · rw [show runM (A 0) nr q = nI r from e] at hQ ⊢
    rw [if_neg (nI_nm1 (by omega)), nI_clamp (by omega)] at hQ
    obtain ⟨f, l, ef, el, h1, h2, h3⟩ := hR r hrr
    unfold runP at hrp
    unfold surR at hQ
    rw [ef, el, nI_clamp (by omega), nI_clamp (by omega)] at hrp hQ
    simp only [r_is2 dX10_sureOf_5, r_il2 dX10_sureOf_6, r_iconst dX10_sureOf_7 kim1, r_ic_ne (tgt := 18) dX10_sureOf_8 rfl, r_al0 dX10_sureOf_11, r_getf dX10_sureOf_12 F10_46, r_il1 dX10_sureOf_15, r_iald dX10_sureOf_16, r_iret dX10_sureOf_17 (Nat.zero_le _) (Nat.zero_le _), r_iconst dX10_sureOf_18 ki0, r_is3 dX10_sureOf_19, r_iconst dX10_sureOf_20 ki0, r_is4 dX10_sureOf_21, List.cons_append, List.nil_append, Nat.reduceAdd, Option.toList, aI_ok, cat_f, cat_i, cat_n, cat_r, eq_self, g10_21, true_and, z0, hM.r, rd_own hM.r, hM.r21, rd_own hM.r21]
    refine ⟨fun _ => ?_, fun h => absurd (Classical.not_not.mp h) (nI_nm1 (by omega))⟩
    refine up_loop nw (fun k => E1 X EV (d + 2) 10 0 0 (some .int) false cX10_sureOf Q 23 [.ref m, .int (nI q), .int (nI r), .int (lowv (sV (A 0)) (A 21) r f l q k), .int (nI k)] [] 0 0 hm hs) ?_ ?_ 0 (by omega)
    · skip
      simp only [r_il4 dX10_sureOf_23, r_al0 dX10_sureOf_25, r_getf dX10_sureOf_26 F10_13, r_iconst dX10_sureOf_29 ki5, r_iald dX10_sureOf_30, r_ic_ge (tgt := 85) dX10_sureOf_31 rfl, r_al0 dX10_sureOf_34, r_il4 dX10_sureOf_35, r_il2 dX10_sureOf_37, r_il3 dX10_sureOf_85, r_iret dX10_sureOf_86 (Nat.zero_le _) (Nat.zero_le _), List.cons_append, List.nil_append, Nat.reduceAdd, Option.toList, aI_ok, g10_0, z0, hM.r, rd_own hM.r, hM.r0, rd_own hM.r0, vs5, ck5, hw, true_and]
      exact ⟨fun _ => hQ, fun h => absurd (Int32.le_refl _) h⟩
    · intro k hk ih
      simp only [r_il4 dX10_sureOf_23, r_al0 dX10_sureOf_25, r_getf dX10_sureOf_26 F10_13, r_iconst dX10_sureOf_29 ki5, r_iald dX10_sureOf_30, r_ic_ge (tgt := 85) dX10_sureOf_31 rfl, r_al0 dX10_sureOf_34, r_il4 dX10_sureOf_35, r_il2 dX10_sureOf_37, r_il3 dX10_sureOf_85, r_iret dX10_sureOf_86 (Nat.zero_le _) (Nat.zero_le _), List.cons_append, List.nil_append, Nat.reduceAdd, Option.toList, aI_ok, g10_0, z0, hM.r, rd_own hM.r, hM.r0, rd_own hM.r0, vs5, ck5, hw, true_and]
      refine ⟨fun h => absurd ((nI_leI (by omega) (by omega)).mp h) (by omega), fun _ => ?_⟩
      refine r_iv3 dX10_sureOf_38 M10_292 Y228 O228 (Nat.le_of_ble_eq_true rfl) (rcv_own hM.r) (Nat.le_refl _) (Nat.le_refl _) ?_
      refine m_fitsRun hM (by omega) (by omega) ef el (by omega) h3 (wfP_lt (F := A 21) hW hk el h3) ?_
      have e5 : nI (91 + 7 * k + 1 + q) - nI f = nI (91 + 7 * k + 1 + (q - f)) := by rw [pk_sub (by omega)]; congr 1; omega
      simp only [r_if_eq (tgt := 79) dX10_sureOf_41 rfl, r_il3 dX10_sureOf_44, r_iconst dX10_sureOf_45 ki1, r_al0 dX10_sureOf_46, r_getf dX10_sureOf_47 F10_13, r_bipush dX10_sureOf_50 kb91, r_bipush dX10_sureOf_52 kb7, r_il4 dX10_sureOf_54, r_imul dX10_sureOf_56, r_iadd dX10_sureOf_57, r_iconst dX10_sureOf_58 ki1, r_iadd dX10_sureOf_59, r_il1 dX10_sureOf_60, r_iadd dX10_sureOf_61, r_al0 dX10_sureOf_62, r_getf dX10_sureOf_63 F10_13, r_sipush dX10_sureOf_66 ks175, r_iconst dX10_sureOf_69 ki2, r_il2 dX10_sureOf_70, r_imul dX10_sureOf_71, r_iadd dX10_sureOf_72, r_iald dX10_sureOf_73, r_isub dX10_sureOf_74, r_iald dX10_sureOf_75, r_ishl dX10_sureOf_76, r_ior dX10_sureOf_77, r_is3 dX10_sureOf_78, r_ii4 dX10_sureOf_79 kn1, r_gotoB (tgt := 23) dX10_sureOf_82 rfl, List.cons_append, List.nil_append, Nat.reduceAdd, Option.toList, aI_ok, cat_f, cat_i, cat_n, cat_r, eq_self, g10_0, true_and, z0, hM.r, rd_own hM.r, hM.r0, rd_own hM.r0, s91, s175, nI_1, nI_add, ef, e5, nI_clamp (show 175 + 2 * r < 2 ^ 31 by omega), nI_clamp (show 91 + 7 * k + 1 + (q - f) < 2 ^ 31 by omega)]
      refine ⟨fun h => ?_, fun h => ⟨vp_in_nI (by omega) (by omega), vp_in_nI (by omega) (by omega), ?_⟩⟩
      · simp (disch := omega) only [E2, nI_1, nI_add, nI_leI, nI_ltI, nI_eq, nI_clamp]
        rw [lowv, if_neg h] at ih
        exact ih
      · simp (disch := omega) only [E2, nI_1, nI_add, nI_leI, nI_ltI, nI_eq, nI_clamp]
        rw [lowv, if_pos (Classical.not_not.mp h), sV11 (by omega)] at ih
        exact ih
theorem m_laysFits (hM : MO hm m u A R) (hn : A 0 2 = nI n) (hn12 : n ≤ 12) (hL : LN (A 0) n L) (hp : A 0 4 = nI np) (hp8 : np ≤ 8) (hl : A 0 3 = nI nl) (hl10 : nl ≤ 10)
    (hQ : ∀ hm' u' A', MO hm' m u' A' R → KM u u' A A' → u' 15 = nI (wyM (A 0) n) → (∀ q, q < np → A' 21 q = fitM (A 0) L n nl q (-1)) → sm m (m + 16) hm hm' → Q none hm' hs) : CC X EV (d + 8) 227 [.ref m] hm hs Q := by
  refine c_of (ls2 := [.ref m, .null]) Y227 (Nat.le_of_ble_eq_true rfl) rfl I227 ?_
  simp only [r_al0 dX10_laysFits_0, List.cons_append, List.nil_append, Nat.reduceAdd, Option.toList, z0]
  refine r_iv1 dX10_laysFits_1 M10_221 Y191 O191 (Nat.le_of_ble_eq_true rfl) (rcv_own hM.r) (Nat.le_refl _) (Nat.le_refl _) ?_
  refine m_lays2 hM hn hn12 (fun hm1 u1 A1 hM1 k1 l1 s1 => ?_)
  rw [← k1.S] at hn hL hp hl hQ
  simp only [r_iconst dX10_laysFits_4 ki0, r_is1 dX10_laysFits_5, List.cons_append, List.nil_append, Nat.reduceAdd, Option.toList, cat_f, cat_i, cat_n, cat_r, eq_self, true_and, z0]
  suffices H : ∀ k, k ≤ np → ∀ hm' u' F, MO hm' m u' (va_up A1 21 F) R → (∀ k, k ≠ 20 → u' k = u1 k) → (∀ q, q < k → F q = fitM (A1 0) L n nl q (-1)) → sm m (m + 16) hm hm' → E1 X EV (d + 7) 10 0 0 none false cX10_laysFits Q 6 [.ref m, .int (nI k)] [] 0 0 hm' hs from
    H 0 (by omega) hm1 u1 (A1 21) (by rw [va_self]; exact hM1) (fun _ _ => rfl) (fun q hq => absurd hq (Nat.not_lt_zero q)) s1
  refine up_loop np _ ?_ ?_
  · intro hm' u' F hM' k' hF s'
    have e2 : (va_up A1 21 F) 0 4 = nI np := hp
    simp only [r_il1 dX10_laysFits_6, r_al0 dX10_laysFits_7, r_getf dX10_laysFits_8 F10_13, r_iconst dX10_laysFits_11 ki4, r_iald dX10_laysFits_12, r_ic_ge (tgt := 34) dX10_laysFits_13 rfl, r_al0 dX10_laysFits_16, r_getf dX10_laysFits_17 F10_46, r_il1 dX10_laysFits_20, r_al0 dX10_laysFits_21, r_il1 dX10_laysFits_22, r_iconst dX10_laysFits_23 kim1, r_vret dX10_laysFits_34 (Nat.zero_le _) (Nat.zero_le _), List.cons_append, List.nil_append, Nat.reduceAdd, Option.toList, aI_ok, g10_0, g10_21, z0, hM'.r, rd_own hM'.r, hM'.r0, rd_own hM'.r0, vs4, ck4, e2, true_and]
    refine ⟨fun _ => hQ hm' u' _ hM' (KM.a21 (k1.trans ⟨fun k a b c e f => k' k c, fun s _ _ _ _ => rfl⟩)) ((k' 15 (by decide)).trans l1.2.1) (fun q hq => ?_) s', fun h => absurd (Int32.le_refl _) h⟩
    rw [vu_eq]; exact hF q hq
  · intro k hk ih hm' u' F hM' k' hF s'
    have e2 : (va_up A1 21 F) 0 4 = nI np := hp
    have e21 : (va_up A1 21 F) 21 = F := vu_eq _ _ _
    simp only [r_il1 dX10_laysFits_6, r_al0 dX10_laysFits_7, r_getf dX10_laysFits_8 F10_13, r_iconst dX10_laysFits_11 ki4, r_iald dX10_laysFits_12, r_ic_ge (tgt := 34) dX10_laysFits_13 rfl, r_al0 dX10_laysFits_16, r_getf dX10_laysFits_17 F10_46, r_il1 dX10_laysFits_20, r_al0 dX10_laysFits_21, r_il1 dX10_laysFits_22, r_iconst dX10_laysFits_23 kim1, r_vret dX10_laysFits_34 (Nat.zero_le _) (Nat.zero_le _), List.cons_append, List.nil_append, Nat.reduceAdd, Option.toList, aI_ok, g10_0, g10_21, z0, hM'.r, rd_own hM'.r, hM'.r0, rd_own hM'.r0, hM'.r21, rd_own hM'.r21, vs4, ck4, e2, true_and]
    refine ⟨fun h => absurd ((nI_leI (by omega) (by omega)).mp h) (by omega), fun _ => ?_⟩
    refine r_iv3 dX10_laysFits_24 M10_289 Y224 O224 (Nat.le_of_ble_eq_true rfl) (rcv_own hM'.r) (Nat.le_refl _) (Nat.le_refl _) ?_
    refine m_fitsOf hM' (n := n) (nl := nl) (L := L) hn hn12 hL ⟨l1.1, (k' 15 (by decide)).trans l1.2.1, l1.2.2⟩ (by omega) hl hl10 (fun hm2 u2 hM2 k2 s2 => ?_)
    have h4 := hM2.w21 (upd F k (fitM (A1 0) L n nl k (-1)))
    rw [va_va] at h4
    simp (disch := first | omega | (simp only [List.length_cons, List.length_nil]; omega)) only [r_iast dX10_laysFits_27, r_ii1 dX10_laysFits_28 kn1, r_gotoB (tgt := 6) dX10_laysFits_31 rfl, List.cons_append, List.nil_append, Nat.reduceAdd, Option.toList, cat_f, cat_i, cat_n, cat_r, eq_self, pk_un, pk_us, rd_up_eq, rd_up_ne, sI_ok, true_and, up_eq, up_ne, up_up, z0, hM2.r, rd_own hM2.r, hM2.r21, rd_own hM2.r21, e21, nI_clamp (show k < 2 ^ 31 by omega)]
    refine ⟨vp_in_nI (by omega) (by omega), ?_⟩
    simp (disch := omega) only [E2, nI_1, nI_add, nI_leI, nI_ltI, nI_eq, nI_clamp]
    refine ih _ _ _ h4 (fun k h => (k2 k h).trans (k' k h)) (fun q hq => ?_) ((s'.trans s2).up (by omega))
    by_cases hqk : q = k
    · rw [hqk, pk_us]
    · rw [pk_un hqk]; exact hF q (by omega)
end M14
