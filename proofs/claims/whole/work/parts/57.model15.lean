theorem wfP_ext {A A' : Nat → Nat → Int32} {F F' : Nat → Int32} {r f l w : Nat} (h10 : A 10 w = A' 10 w) (h13 : A 13 r = A' 13 r) (h11 : A 10 w = A 13 r → ∀ i, i < l → A 11 (6 * w + i) = A' 11 (6 * w + i)) (hF : ∀ i, i < l → F (f + i) = F' (f + i)) : wfP A F r f l w ↔ wfP A' F' r f l w := by
  constructor
  · rintro ⟨a, b⟩
    exact ⟨by rw [← h10, ← h13]; exact a, fun i hi => by rw [← hF i hi, ← h11 a i hi]; exact b i hi⟩
  · rintro ⟨a, b⟩
    have a' : A 10 w = A 13 r := by rw [h10, h13]; exact a
    exact ⟨a', fun i hi => by rw [hF i hi, h11 a' i hi]; exact b i hi⟩
theorem lowv_ext {A A' : Nat → Nat → Int32} {F F' : Nat → Int32} {r f l q nw : Nat} (h10 : ∀ w, w < nw → A 10 w = A' 10 w) (h13 : A 13 r = A' 13 r) (h11 : ∀ w, w < nw → A 10 w = A 13 r → ∀ i, i < l → A 11 (6 * w + i) = A' 11 (6 * w + i)) (hF : ∀ i, i < l → F (f + i) = F' (f + i)) (hq : f ≤ q) (hq2 : q < f + l) :
    ∀ k, k ≤ nw → lowv A F r f l q k = lowv A' F' r f l q k := by
  intro k
  induction k with
  | zero => intro _; rfl
  | succ k ih =>
    intro hk
    have ih := ih (by omega)
    have hx := wfP_ext (f := f) (h10 k (by omega)) h13 (h11 k (by omega)) hF
    unfold lowv
    rw [ih]
    by_cases hp : wfP A F r f l k
    · rw [if_pos hp, if_pos (hx.mp hp), h11 k (by omega) hp.1 (q - f) (by omega)]
    · rw [if_neg hp, if_neg (fun z => hp (hx.mpr z))]
theorem surM_ext {S F F' : Nat → Int32} {nl np nw nr q : Nat} (hW : WS S nl np nw nr) (hq : q < np) (hF : ∀ q, q < np → F q = F' q) : surM S F nw nr q = surM S F' nw nr q := by
  unfold surM
  rcases fst1_cases (runP S q) nr with e | ⟨r, hrr, e, hrp⟩
  · rw [show runM S nr q = -1 from e, if_pos rfl, if_pos rfl]; exact hF q hq
  · have := hW.2.2.2.1.2
    rw [show runM S nr q = nI r from e, if_neg (nI_nm1 (by omega)), if_neg (nI_nm1 (by omega)), nI_clamp (by omega)]
    obtain ⟨f, l, ef, el, h1, h2, h3⟩ := hW.2.2.2.2.1 r hrr
    have h8 := hW.2.1.2
    unfold runP at hrp
    unfold surR
    rw [ef, el, nI_clamp (by omega), nI_clamp (by omega)] at hrp ⊢
    exact lowv_ext (fun _ _ => rfl) rfl (fun _ _ _ _ _ => rfl) (fun i hi => hF _ (by omega)) hrp.1 hrp.2 nw (Nat.le_refl nw)
/-- what fits each place -/
def ftM (S : Nat → Int32) (L : Nat → Nat) (n nl : Nat) : Nat → Int32 := fun q => fitM S L n nl q (-1)
def MZ (S : Nat → Int32) (n w h nl np nw nr : Nat) (L : Nat → Nat) : Prop := (S 0 = nI w ∧ w ≤ 24) ∧ (S 1 = nI h ∧ h ≤ 12) ∧ (S 2 = nI n ∧ n ≤ 12) ∧ LN S n L ∧ WS S nl np nw nr
theorem fitM_hi {S : Nat → Int32} {L : Nat → Nat} {n nl q i : Nat} {no : Int32} (hl : nl ≤ 10) (h : nl ≤ i) (hi : i < 32) : bt (fitM S L n nl q no) i = false := by
  unfold fitM
  rw [b_acc _ (by omega) hi, decide_eq_false (fun z => absurd z.1 (by omega))]
theorem lowv_hi {S F : Nat → Int32} {nl np nw nr r f l q i : Nat} (hW : WS S nl np nw nr) (el : S (175 + 2 * r + 1) = nI l) (hl6 : l ≤ 6) (hq : f ≤ q) (hq2 : q < f + l) (h : nl ≤ i) (hi : i < 32) : ∀ k, k ≤ nw → bt (lowv (sV S) F r f l q k) i = false := by
  intro k
  have := hW.1.2
  induction k with
  | zero => intro _; exact b_0 i
  | succ k ih =>
    intro hk
    unfold lowv
    split
    · rename_i hp
      rw [b_or, ih (by omega), sV11 (by omega)]
      obtain ⟨l', h1, h2, h3, h4⟩ := hW.2.2.2.2.2.1 k (by omega)
      have e2 : S (91 + 7 * k) = S (175 + 2 * r + 1) := hp.1
      rw [el, h3, nI_eq (by omega) (by omega)] at e2
      obtain ⟨t, ht, et⟩ := h4 (q - f) (by omega)
      rw [et]
      show (false || bt (sb t) i) = false
      rw [b_sb (by omega) hi, decide_eq_false (by omega)]
      rfl
    · exact ih (by omega)
theorem surM_hi {S : Nat → Int32} {L : Nat → Nat} {n nl np nw nr q i : Nat} (hW : WS S nl np nw nr) (h : nl ≤ i) (hi : i < 32) : bt (surM S (ftM S L n nl) nw nr q) i = false := by
  unfold surM
  rcases fst1_cases (runP S q) nr with e | ⟨r, hrr, e, hrp⟩
  · rw [show runM S nr q = -1 from e, if_pos rfl]; exact fitM_hi hW.1.2 h hi
  · have := hW.2.2.2.1.2
    rw [show runM S nr q = nI r from e, if_neg (nI_nm1 (by omega)), nI_clamp (by omega)]
    obtain ⟨f, l, ef, el, h1, h2, h3⟩ := hW.2.2.2.2.1 r hrr
    have h8 := hW.2.1.2
    unfold runP at hrp
    unfold surR
    rw [ef, el, nI_clamp (by omega), nI_clamp (by omega)] at hrp ⊢
    exact lowv_hi hW el h3 hrp.1 hrp.2 h hi nw (Nat.le_refl nw)
/-- the likeliest, as the model asks -/
def likm (c : Nat → Prop) [DecidablePred c] (P : Nat → Int64) : Nat → Int32
  | 0 => -1
  | k + 1 => if c k ∧ (likm c P k = -1 ∨ P (likm c P k).toNatClampNeg < P k) then nI k else likm c P k
theorem likm_cases (c : Nat → Prop) [DecidablePred c] (P : Nat → Int64) (n : Nat) : likm c P n = -1 ∨ ∃ k, k < n ∧ likm c P n = nI k ∧ c k := by
  induction n with
  | zero => exact .inl rfl
  | succ k ih =>
    unfold likm
    split
    · rename_i h; exact .inr ⟨k, by omega, rfl, h.1⟩
    · rcases ih with e | ⟨j, hj, e, hc⟩
      · exact .inl e
      · exact .inr ⟨j, by omega, e, hc⟩
section M15
variable {X : HM} {EV : Nat → Value} {d : Nat} {hm : HM} {hs : Nat} {Q : QT} {m n : Nat} {u : Nat → Int32} {A : Nat → Nat → Int32} {R : Nat → Int64} {w h nl np nw nr : Nat} {L : Nat → Nat}
theorem m_lf (hM : MO hm m u A R) (hZ : MZ (A 0) n w h nl np nw nr L)
    (hQ : ∀ hm' u' A', MO hm' m u' A' R → KM u u' A A' → u' 15 = nI (wyM (A 0) n) → (∀ q, q < np → A' 21 q = ftM (A 0) L n nl q) → sm m (m + 16) hm hm' → Q none hm' hs) : CC X EV (d + 8) 227 [.ref m] hm hs Q :=
  m_laysFits hM hZ.2.2.1.1 hZ.2.2.1.2 hZ.2.2.2.1 hZ.2.2.2.2.2.1.1 hZ.2.2.2.2.2.1.2 hZ.2.2.2.2.1.1 hZ.2.2.2.2.1.2 hQ
theorem m_sf {q : Nat} {S F : Nat → Int32} (hM : MO hm m u A R) (eS : A 0 = S) (hW : WS S nl np nw nr) (hF : ∀ q, q < np → A 21 q = F q) (hq : q < np) (hQ : Q (some (.int (surM S F nw nr q))) hm hs) : CC X EV (d + 3) 229 [.ref m, .int (nI q)] hm hs Q := by
  rw [← surM_ext hW hq hF] at hQ
  subst eS
  exact m_sureOf hM hW hq hQ
theorem m_sure {q : Int32} (hM : MO hm m u A R) (hZ : MZ (A 0) n w h nl np nw nr L)
    (h0 : ¬ (0 ≤ q ∧ q < nI np) → ∀ hm' u' A', MO hm' m u' A' R → KM u u' A A' → sm m (m + 16) hm hm' → Q (some (.int (-2))) hm' hs)
    (hQ : ∀ i, i < np → q = nI i → ∀ hm' u' A', MO hm' m u' A' R → KM u u' A A' → sm m (m + 16) hm hm' → Q (some (.int (surM (A 0) (ftM (A 0) L n nl) nw nr i))) hm' hs) : CC X EV (d + 9) 230 [.ref m, .int q] hm hs Q := by
  have hp8 := hZ.2.2.2.2.2.1.2
  have hM1 := hM.o (upd u 4 0)
  have s1 : sm m (m + 16) hm (im_up hm m (.inr (10, fs_MO m (upd u 4 0)))) := sm.rf.up (by omega)
  refine c_of (ls2 := [.ref m, .int q]) Y230 (Nat.le_of_ble_eq_true rfl) rfl I230 ?_
  simp (disch := first | omega | (simp only [List.length_cons, List.length_nil]; omega)) only [r_al0 dX10_sure_0, r_iconst dX10_sure_1 ki0, r_putf dX10_sure_2 F10_1, r_al0 dX10_sure_5, r_il1 dX10_sure_6, List.cons_append, List.nil_append, Nat.reduceAdd, Option.toList, fit_i, ft10_4, p10_4, pk_un, pk_us, rd_up_eq, rd_up_ne, true_and, up_eq, up_ne, up_up, z0, hM.r, rd_own hM.r, hM.r, rd_own hM.r]
  generalize im_up hm m (.inr (10, fs_MO m (upd u 4 0))) = hm1 at hM1 s1 ⊢
  refine r_iv2 dX10_sure_7 M10_283 Y221 O221 (Nat.le_of_ble_eq_true rfl) (rcv_own hM1.r) (Nat.le_refl _) (Nat.le_refl _) ?_
  refine m_isPlace hM1 hZ.2.2.2.2.2.1.1 (by omega) ?_
  simp only [r_if_ne (tgt := 16) dX10_sure_10 rfl, r_bipush dX10_sure_13 kbm2, r_iret dX10_sure_15 (Nat.zero_le _) (Nat.zero_le _), r_al0 dX10_sure_16, List.cons_append, List.nil_append, Nat.reduceAdd, Option.toList, z0]
  refine ⟨fun h => ?_, fun h => h0 (Classical.not_not.mp h) _ _ _ hM1 KM.rf.u4 s1⟩
  obtain ⟨i, hi, rfl⟩ := ix (by omega) (Classical.not_not.mp h)
  refine r_iv1 dX10_sure_17 M10_295 Y227 O227 (Nat.le_of_ble_eq_true rfl) (rcv_own hM1.r) (Nat.le_refl _) (Nat.le_refl _) ?_
  refine m_lf hM1 hZ (fun hm2 u2 A2 hM2 k2 l2 hF s2 => ?_)
  simp only [r_al0 dX10_sure_20, r_il1 dX10_sure_21, List.cons_append, List.nil_append, Nat.reduceAdd, Option.toList, z0]
  refine r_iv2 dX10_sure_22 M10_298 Y229 O229 (Nat.le_of_ble_eq_true rfl) (rcv_own hM2.r) (Nat.le_refl _) (Nat.le_refl _) ?_
  refine m_sf hM2 k2.S hZ.2.2.2.2 hF hi ?_
  simp only [r_iret dX10_sure_25 (Nat.zero_le _) (Nat.zero_le _), List.cons_append, List.nil_append, Nat.reduceAdd, Option.toList, z0]
  exact hQ i hi rfl hm2 u2 A2 hM2 (KM.rf.u4.trans k2) (s1.trans s2)
theorem m_guess {q : Int32} (hM : MO hm m u A R) (hZ : MZ (A 0) n w h nl np nw nr L)
    (h0 : ¬ (0 ≤ q ∧ q < nI np) → ∀ hm' u' A', MO hm' m u' A' R → KM u u' A A' → sm m (m + 16) hm hm' → Q (some (.int (-2))) hm' hs)
    (hQ : ∀ i, i < np → q = nI i → ∀ hm' u' A', MO hm' m u' A' R → KM u u' A A' → sm m (m + 16) hm hm' → Q (some (.int (heav (sV (A 0) 6) (surM (A 0) (ftM (A 0) L n nl) nw nr i) nl))) hm' hs) : CC X EV (d + 9) 234 [.ref m, .int q] hm hs Q := by
  have hp8 := hZ.2.2.2.2.2.1.2
  have hl := hZ.2.2.2.2.1.1
  have hl10 := hZ.2.2.2.2.1.2
  have hM1 := hM.o (upd u 4 0)
  have s1 : sm m (m + 16) hm (im_up hm m (.inr (10, fs_MO m (upd u 4 0)))) := sm.rf.up (by omega)
  refine c_of (ls2 := [.ref m, .int q, .null, .null, .null]) Y234 (Nat.le_of_ble_eq_true rfl) rfl I234 ?_
  simp (disch := first | omega | (simp only [List.length_cons, List.length_nil]; omega)) only [r_al0 dX10_guess_0, r_iconst dX10_guess_1 ki0, r_putf dX10_guess_2 F10_1, r_al0 dX10_guess_5, r_il1 dX10_guess_6, List.cons_append, List.nil_append, Nat.reduceAdd, Option.toList, fit_i, ft10_4, p10_4, pk_un, pk_us, rd_up_eq, rd_up_ne, true_and, up_eq, up_ne, up_up, z0, hM.r, rd_own hM.r, hM.r, rd_own hM.r]
  generalize im_up hm m (.inr (10, fs_MO m (upd u 4 0))) = hm1 at hM1 s1 ⊢
  refine r_iv2 dX10_guess_7 M10_283 Y221 O221 (Nat.le_of_ble_eq_true rfl) (rcv_own hM1.r) (Nat.le_refl _) (Nat.le_refl _) ?_
  refine m_isPlace hM1 hZ.2.2.2.2.2.1.1 (by omega) ?_
  simp only [r_if_ne (tgt := 16) dX10_guess_10 rfl, r_bipush dX10_guess_13 kbm2, r_iret dX10_guess_15 (Nat.zero_le _) (Nat.zero_le _), r_al0 dX10_guess_16, List.cons_append, List.nil_append, Nat.reduceAdd, Option.toList, z0]
  refine ⟨fun h => ?_, fun h => h0 (Classical.not_not.mp h) _ _ _ hM1 KM.rf.u4 s1⟩
  obtain ⟨i, hi, rfl⟩ := ix (by omega) (Classical.not_not.mp h)
  refine r_iv1 dX10_guess_17 M10_295 Y227 O227 (Nat.le_of_ble_eq_true rfl) (rcv_own hM1.r) (Nat.le_refl _) (Nat.le_refl _) ?_
  refine m_lf hM1 hZ (fun hm2 u2 A2 hM2 k2 l2 hF s2 => ?_)
  simp only [r_al0 dX10_guess_20, r_il1 dX10_guess_21, List.cons_append, List.nil_append, Nat.reduceAdd, Option.toList, z0]
  refine r_iv2 dX10_guess_22 M10_298 Y229 O229 (Nat.le_of_ble_eq_true rfl) (rcv_own hM2.r) (Nat.le_refl _) (Nat.le_refl _) ?_
  refine m_sf hM2 k2.S hZ.2.2.2.2 hF hi ?_
  have hQ := hQ i hi rfl hm2 u2 A2 hM2 (KM.rf.u4.trans k2) (s1.trans s2)
  have e0 : A2 0 = A 0 := k2.S
  rw [← e0] at hl
  rw [show sV (A 0) 6 = sV (A2 0) 6 by rw [e0]] at hQ
  generalize surM (A 0) (ftM (A 0) L n nl) nw nr i = T at hQ ⊢
  simp only [r_is2 dX10_guess_25, r_iconst dX10_guess_26 kim1, r_is3 dX10_guess_27, r_iconst dX10_guess_28 ki0, r_is4 dX10_guess_29, List.cons_append, List.nil_append, Nat.reduceAdd, Option.toList, cat_f, cat_i, cat_n, cat_r, eq_self, true_and, z0]
  refine up_loop nl (fun k => E1 X EV (d + 8) 10 0 0 (some .int) false cX10_guess Q 31 [.ref m, .int (nI i), .int T, .int (heav (sV (A2 0) 6) T k), .int (nI k)] [] 0 0 hm2 hs) ?_ ?_ 0 (by omega)
  · skip
    simp only [r_il4 dX10_guess_31, r_al0 dX10_guess_33, r_getf dX10_guess_34 F10_13, r_iconst dX10_guess_37 ki3, r_iald dX10_guess_38, r_ic_ge (tgt := 89) dX10_guess_39 rfl, r_il2 dX10_guess_42, r_il4 dX10_guess_43, r_il3 dX10_guess_89, r_iret dX10_guess_90 (Nat.zero_le _) (Nat.zero_le _), List.cons_append, List.nil_append, Nat.reduceAdd, Option.toList, aI_ok, g10_0, z0, hM2.r, rd_own hM2.r, hM2.r0, rd_own hM2.r0, vs3, ck3, hl, true_and]
    exact ⟨fun _ => hQ, fun h => absurd (Int32.le_refl _) h⟩
  · intro k hk ih
    simp only [r_il4 dX10_guess_31, r_al0 dX10_guess_33, r_getf dX10_guess_34 F10_13, r_iconst dX10_guess_37 ki3, r_iald dX10_guess_38, r_ic_ge (tgt := 89) dX10_guess_39 rfl, r_il2 dX10_guess_42, r_il4 dX10_guess_43, r_il3 dX10_guess_89, r_iret dX10_guess_90 (Nat.zero_le _) (Nat.zero_le _), List.cons_append, List.nil_append, Nat.reduceAdd, Option.toList, aI_ok, g10_0, z0, hM2.r, rd_own hM2.r, hM2.r0, rd_own hM2.r0, vs3, ck3, hl, true_and]
    refine ⟨fun h => absurd ((nI_leI (by omega) (by omega)).mp h) (by omega), fun _ => ?_⟩
    refine r_ist2 dX10_guess_45 M10_178 Y156 (Nat.le_of_ble_eq_true rfl) (Nat.le_refl _) (Nat.le_refl _) ?_
    refine m_has (by omega) ?_
    simp only [r_if_eqB (tgt := 83) dX10_guess_48 rfl, r_il3 dX10_guess_51, r_iconst dX10_guess_52 kim1, r_ic_eqB (tgt := 80) dX10_guess_53 rfl, r_al0 dX10_guess_56, r_getf dX10_guess_57 F10_13, r_sipush dX10_guess_60 ks207, r_il4 dX10_guess_63, r_iadd dX10_guess_65, r_iald dX10_guess_66, r_al0 dX10_guess_67, r_getf dX10_guess_68 F10_13, r_sipush dX10_guess_71 ks207, r_il3 dX10_guess_74, r_iadd dX10_guess_75, r_iald dX10_guess_76, r_ic_leB (tgt := 83) dX10_guess_77 rfl, List.cons_append, List.nil_append, Nat.reduceAdd, Option.toList, aI_ok, g10_0, z0, hM2.r, rd_own hM2.r, hM2.r0, rd_own hM2.r0, s207, nI_clamp (show 207 + k < 2 ^ 31 by omega)]
    have a83 : ∀ z, E1 X EV (d + 8) 10 0 0 (some .int) false cX10_guess Q 31 [.ref m, .int (nI i), .int T, .int z, .int (nI (k + 1))] [] 0 0 hm2 hs → E1 X EV (d + 8) 10 0 0 (some .int) false cX10_guess Q 83 [.ref m, .int (nI i), .int T, .int z, .int (nI k)] [] 0 0 hm2 hs := by
      intro z hz
      simp only [r_ii4 dX10_guess_83 kn1, r_gotoB (tgt := 31) dX10_guess_86 rfl, List.cons_append, List.nil_append, Nat.reduceAdd, Option.toList, cat_f, cat_i, cat_n, cat_r, eq_self, true_and, z0]
      simp (disch := omega) only [E2, nI_1, nI_add, nI_leI, nI_ltI, nI_eq, nI_clamp]
      exact hz
    have a80 : E1 X EV (d + 8) 10 0 0 (some .int) false cX10_guess Q 31 [.ref m, .int (nI i), .int T, .int (nI k), .int (nI (k + 1))] [] 0 0 hm2 hs → E1 X EV (d + 8) 10 0 0 (some .int) false cX10_guess Q 80 [.ref m, .int (nI i), .int T, .int (heav (sV (A2 0) 6) T k), .int (nI k)] [] 0 0 hm2 hs := by
      intro hz
      simp only [r_il4 dX10_guess_80, r_is3 dX10_guess_82, r_ii4 dX10_guess_83 kn1, r_gotoB (tgt := 31) dX10_guess_86 rfl, List.cons_append, List.nil_append, Nat.reduceAdd, Option.toList, cat_f, cat_i, cat_n, cat_r, eq_self, true_and, z0]
      simp (disch := omega) only [E2, nI_1, nI_add, nI_leI, nI_ltI, nI_eq, nI_clamp]
      exact hz
    unfold heav at ih
    refine ⟨fun h => ?_, fun h => ⟨fun h2 => ?_, fun h2 => ?_⟩⟩
    · rw [if_neg (fun z => h z.1)] at ih
      simp (disch := omega) only [E2, nI_1, nI_add, nI_leI, nI_ltI, nI_eq, nI_clamp]
      exact a83 _ ih
    · rw [if_pos ⟨Classical.not_not.mp h, .inl h2⟩] at ih
      simp (disch := omega) only [E2, nI_1, nI_add, nI_leI, nI_ltI, nI_eq, nI_clamp]
      exact a80 ih
    · rcases heav_lt (sV (A2 0) 6) T k (by omega) with e | ⟨j, hj, e⟩
      · exact absurd e h2
      · rw [e] at ih a80 ⊢
        rw [s207, nI_clamp (show 207 + j < 2 ^ 31 by omega)]
        refine ⟨vp_in_nI (by omega) (by omega), vp_in_nI (by omega) (by omega), fun h3 => ?_, fun h3 => ?_⟩
        · rw [if_neg (fun z => by
            rcases z.2 with q | q
            · exact nI_nm1 (by omega) q
            · rw [nI_clamp (by omega)] at q
              exact Int32.not_le.mpr q h3)] at ih
          simp (disch := omega) only [E2, nI_1, nI_add, nI_leI, nI_ltI, nI_eq, nI_clamp]
          exact a83 _ ih
        · rw [if_pos ⟨Classical.not_not.mp h, .inr (by rw [nI_clamp (by omega)]; exact Int32.not_le.mp h3)⟩] at ih
          exact a80 ih
theorem m_words {r k : Int32} (hM : MO hm m u A R) (hZ : MZ (A 0) n w h nl np nw nr L)
    (h0 : ¬ (0 ≤ r ∧ r < nI nr) → ∀ hm' u' A', MO hm' m u' A' R → KM u u' A A' → sm m (m + 16) hm hm' → Q (some (.int (-2))) hm' hs)
    (h1 : (0 ≤ r ∧ r < nI nr) → k < -1 → ∀ hm' u' A', MO hm' m u' A' R → KM u u' A A' → sm m (m + 16) hm hm' → Q (some (.int (-3))) hm' hs)
    (hQ : ∀ i f l, i < nr → r = nI i → ¬ k < -1 → A 0 (175 + 2 * i) = nI f → A 0 (175 + 2 * i + 1) = nI l → f + l ≤ np → l ≤ 6 → ∀ hm' u' A', MO hm' m u' A' R → KM u u' A A' → sm m (m + 16) hm hm' → ∀ F, (∀ q, q < np → F q = ftM (A 0) L n nl q) →
      (∀ j, j < nw → wfP (sV (A 0)) F i f l j → nI (wcn (wfP (sV (A 0)) F i f l) j) = k → Q (some (.int (nI j))) hm' hs) ∧ ((∀ j, j < nw → wfP (sV (A 0)) F i f l j → ¬ nI (wcn (wfP (sV (A 0)) F i f l) j) = k) → Q (some (.int (if k = -1 then nI (wcn (wfP (sV (A 0)) F i f l) nw) else -1))) hm' hs)) : CC X EV (d + 9) 236 [.ref m, .int r, .int k] hm hs Q := by
  have hW := hZ.2.2.2.2
  have hr4 := hW.2.2.2.1.2
  have hw := hW.2.2.1.1
  have hw12 := hW.2.2.1.2
  have hp8 := hW.2.1.2
  have hM1 := hM.o (upd u 4 0)
  have s1 : sm m (m + 16) hm (im_up hm m (.inr (10, fs_MO m (upd u 4 0)))) := sm.rf.up (by omega)
  refine c_of (ls2 := [.ref m, .int r, .int k, .null, .null]) Y236 (Nat.le_of_ble_eq_true rfl) rfl I236 ?_
  simp (disch := first | omega | (simp only [List.length_cons, List.length_nil]; omega)) only [r_al0 dX10_words_0, r_iconst dX10_words_1 ki0, r_putf dX10_words_2 F10_1, r_al0 dX10_words_5, r_il1 dX10_words_6, List.cons_append, List.nil_append, Nat.reduceAdd, Option.toList, fit_i, ft10_4, p10_4, pk_un, pk_us, rd_up_eq, rd_up_ne, true_and, up_eq, up_ne, up_up, z0, hM.r, rd_own hM.r, hM.r, rd_own hM.r]
  generalize im_up hm m (.inr (10, fs_MO m (upd u 4 0))) = hm1 at hM1 s1 ⊢
  refine r_iv2 dX10_words_7 M10_304 Y235 O235 (Nat.le_of_ble_eq_true rfl) (rcv_own hM1.r) (Nat.le_refl _) (Nat.le_refl _) ?_
  refine m_isRun hM1 hW.2.2.2.1.1 (by omega) ?_
  simp only [r_if_ne (tgt := 16) dX10_words_10 rfl, r_bipush dX10_words_13 kbm2, r_iret dX10_words_15 (Nat.zero_le _) (Nat.zero_le _), r_il2 dX10_words_16, r_iconst dX10_words_17 kim1, r_ic_ge (tgt := 24) dX10_words_18 rfl, r_bipush dX10_words_21 kbm3, r_iret dX10_words_23 (Nat.zero_le _) (Nat.zero_le _), r_al0 dX10_words_24, List.cons_append, List.nil_append, Nat.reduceAdd, Option.toList, z0]
  refine ⟨fun h => ?_, fun h => h0 (Classical.not_not.mp h) _ _ _ hM1 KM.rf.u4 s1⟩
  refine ⟨fun h2 => ?_, fun h2 => h1 (Classical.not_not.mp h) (Int32.not_le.mp h2) _ _ _ hM1 KM.rf.u4 s1⟩
  obtain ⟨i, hi, rfl⟩ := ix (by omega) (Classical.not_not.mp h)
  obtain ⟨f, l, ef, el, g1, g2, g3⟩ := hW.2.2.2.2.1 i hi
  refine r_iv1 dX10_words_25 M10_295 Y227 O227 (Nat.le_of_ble_eq_true rfl) (rcv_own hM1.r) (Nat.le_refl _) (Nat.le_refl _) ?_
  refine m_lf hM1 hZ (fun hm2 u2 A2 hM2 k2 l2 hF s2 => ?_)
  have hQ := hQ i f l hi rfl (Int32.not_lt.mpr h2) ef el g1 g3 hm2 u2 A2 hM2 (KM.rf.u4.trans k2) (s1.trans s2) (A2 21) hF
  have e0 : A2 0 = A 0 := k2.S
  rw [← e0] at hW hw ef el hQ
  simp only [r_iconst dX10_words_28 ki0, r_is3 dX10_words_29, r_iconst dX10_words_30 ki0, r_is4 dX10_words_31, List.cons_append, List.nil_append, Nat.reduceAdd, Option.toList, cat_f, cat_i, cat_n, cat_r, eq_self, true_and, z0]
  suffices H : ∀ j, j ≤ nw → (∀ x, x < j → wfP (sV (A2 0)) (A2 21) i f l x → ¬ nI (wcn (wfP (sV (A2 0)) (A2 21) i f l) x) = k) → E1 X EV (d + 8) 10 0 0 (some .int) false cX10_words Q 33 [.ref m, .int (nI i), .int k, .int (nI (wcn (wfP (sV (A2 0)) (A2 21) i f l) j)), .int (nI j)] [] 0 0 hm2 hs from H 0 (by omega) (fun x hx => absurd hx (Nat.not_lt_zero x))
  refine up_loop nw _ ?_ ?_
  · intro hno
    have hQ := hQ.2 hno
    simp only [r_il4 dX10_words_33, r_al0 dX10_words_35, r_getf dX10_words_36 F10_13, r_iconst dX10_words_39 ki5, r_iald dX10_words_40, r_ic_ge (tgt := 74) dX10_words_41 rfl, r_al0 dX10_words_44, r_il4 dX10_words_45, r_il1 dX10_words_47, r_il2 dX10_words_74, r_iconst dX10_words_75 kim1, r_ic_ne (tgt := 83) dX10_words_76 rfl, r_il3 dX10_words_79, r_goto (tgt := 84) dX10_words_80 rfl, r_iconst dX10_words_83 kim1, r_iret dX10_words_84 (Nat.zero_le _) (Nat.zero_le _), List.cons_append, List.nil_append, Nat.reduceAdd, Option.toList, aI_ok, g10_0, z0, hM2.r, rd_own hM2.r, hM2.r0, rd_own hM2.r0, vs5, ck5, hw, true_and]
    refine ⟨fun _ => ⟨fun h3 => ?_, fun h3 => ?_⟩, fun h => absurd (Int32.le_refl _) h⟩
    · rw [if_neg h3] at hQ; exact hQ
    · rw [if_pos (Classical.not_not.mp h3)] at hQ; exact hQ
  · intro j hj ih hno
    have hwl := wcn_le (wfP (sV (A2 0)) (A2 21) i f l) j
    simp only [r_il4 dX10_words_33, r_al0 dX10_words_35, r_getf dX10_words_36 F10_13, r_iconst dX10_words_39 ki5, r_iald dX10_words_40, r_ic_ge (tgt := 74) dX10_words_41 rfl, r_al0 dX10_words_44, r_il4 dX10_words_45, r_il1 dX10_words_47, r_il2 dX10_words_74, r_iconst dX10_words_75 kim1, r_ic_ne (tgt := 83) dX10_words_76 rfl, r_il3 dX10_words_79, r_goto (tgt := 84) dX10_words_80 rfl, r_iconst dX10_words_83 kim1, r_iret dX10_words_84 (Nat.zero_le _) (Nat.zero_le _), List.cons_append, List.nil_append, Nat.reduceAdd, Option.toList, aI_ok, g10_0, z0, hM2.r, rd_own hM2.r, hM2.r0, rd_own hM2.r0, vs5, ck5, hw, true_and]
    refine ⟨fun h => absurd ((nI_leI (by omega) (by omega)).mp h) (by omega), fun _ => ?_⟩
    refine r_iv3 dX10_words_48 M10_292 Y228 O228 (Nat.le_of_ble_eq_true rfl) (rcv_own hM2.r) (Nat.le_refl _) (Nat.le_refl _) ?_
    refine m_fitsRun hM2 (by omega) (by omega) ef el (by omega) g3 (wfP_lt (F := A2 21) hW hj el g3) ?_
    simp only [r_if_ne (tgt := 57) dX10_words_51 rfl, r_goto (tgt := 68) dX10_words_54 rfl, r_il3 dX10_words_57, r_il2 dX10_words_58, r_ic_ne (tgt := 65) dX10_words_59 rfl, r_il4 dX10_words_62, r_iret dX10_words_64 (Nat.zero_le _) (Nat.zero_le _), r_ii3 dX10_words_65 kn1, r_ii4 dX10_words_68 kn1, r_gotoB (tgt := 33) dX10_words_71 rfl, List.cons_append, List.nil_append, Nat.reduceAdd, Option.toList, cat_f, cat_i, cat_n, cat_r, eq_self, true_and, z0]
    refine ⟨fun h3 => ⟨fun h4 => ?_, fun h4 => ?_⟩, fun h3 => ?_⟩
    · simp (disch := omega) only [E2, nI_1, nI_add, nI_leI, nI_ltI, nI_eq, nI_clamp]
      rw [wcn, if_pos (Classical.not_not.mp h3)] at ih
      exact ih (fun x hx => by
        rcases Nat.lt_or_ge x j with h' | h'
        · exact hno x h'
        · rw [show x = j by omega]; exact fun _ => h4)
    · exact hQ.1 j hj (Classical.not_not.mp h3) (Classical.not_not.mp h4)
    · simp (disch := omega) only [E2, nI_1, nI_add, nI_leI, nI_ltI, nI_eq, nI_clamp]
      rw [wcn, if_neg (Classical.not_not.mp h3)] at ih
      exact ih (fun x hx => by
        rcases Nat.lt_or_ge x j with h' | h'
        · exact hno x h'
        · rw [show x = j by omega]; exact fun z => absurd z (Classical.not_not.mp h3))
end M15
