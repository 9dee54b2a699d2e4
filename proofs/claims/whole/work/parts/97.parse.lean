/-! ===== the model reads: numbers ===== -/
def BY (T : Nat → Int32) (e : Nat) : Prop := ∀ i, i < e → ∃ b, b < 256 ∧ T i = (nI b).toInt8.toInt32
theorem by_k : ∀ b, b < 256 → (nI b).toInt8.toInt32 &&& 255 = nI b ∧ (b < 128 → (nI b).toInt8.toInt32 = nI b) ∧ (128 ≤ b → (nI b).toInt8.toInt32 < 0) := by decide +kernel
theorem by_dg {x : Int32} {b : Nat} (hb : b < 256) (e : x = (nI b).toInt8.toInt32) : (isDg (x &&& 255) ↔ isDg x) ∧ (isSm (x &&& 255) ↔ isSm x) ∧ (∀ c, c < 128 → (x &&& 255 = nI c ↔ x = nI c)) ∧ (x &&& 255 = nI b) := by
  obtain ⟨h1, h2, h3⟩ := by_k b hb
  rw [← e] at h1 h2 h3
  rcases Nat.lt_or_ge b 128 with h | h
  · have : x &&& 255 = x := by rw [h1, h2 h]
    rw [this]; exact ⟨Iff.rfl, Iff.rfl, fun _ _ => Iff.rfl, h2 h⟩
  · have hx := h3 h
    have h5 : ¬ isDg x := fun z => by have := z.1; grind
    have h6 : ¬ isSm x := fun z => by have := z.1; grind
    rw [h1]
    refine ⟨⟨fun z => ?_, fun z => absurd z h5⟩, ⟨fun z => ?_, fun z => absurd z h6⟩, fun c hc => ⟨fun z => ?_, fun z => ?_⟩, rfl⟩
    · have := z.2
      rw [show (57 : Int32) = nI 57 from rfl, nI_leI (by omega) (by omega)] at this; omega
    · have := z.2
      rw [show (122 : Int32) = nI 122 from rfl, nI_leI (by omega) (by omega)] at this; omega
    · rw [nI_eq (by omega) (by omega)] at z; omega
    · have := nI_pos' (n := c) (by omega)
      rw [z] at hx; exact absurd hx (Int32.not_lt.mpr this)
theorem nxq_un {T : Nat → Int32} {e q a b : Nat} {P : Int32 → Prop} (h1 : nxq T e P q a) (h2 : nxq T e P q b) : a = b := by
  rcases Nat.lt_trichotomy a b with h | h | h
  · exact absurd (h2.2.2.1 a h1.1 h) (h1.2.2.2 (by have := h2.2.1; omega))
  · exact h
  · exact absurd (h1.2.2.1 b h2.1 h) (h2.2.2.2 (by have := h1.2.1; omega))
/-- of a number, its first four figures -/
def mdg (T : Nat → Int32) (st : Nat) : Nat → Int32
  | 0 => 0
  | k + 1 => if 4 ≤ k then mdg T st k else 10 * mdg T st k + T (st + k) - 48
theorem mdg_4 {T : Nat → Int32} {st : Nat} : ∀ k, k ≤ 4 → mdg T st k = dgv T st k := by
  intro k
  induction k with
  | zero => intro _; rfl
  | succ k ih => intro h; unfold mdg dgv; rw [if_neg (by omega), if_neg (by omega), ih (by omega)]
theorem dgv_5 {T : Nat → Int32} {st : Nat} : ∀ k, 4 < k → dgv T st k = -1 := by
  intro k h
  obtain ⟨j, rfl⟩ : ∃ j, k = j + 1 := ⟨k - 1, by omega⟩
  unfold dgv; rw [if_pos (by omega)]
section MA
variable {X : HM} {EV : Nat → Value} {d : Nat} {hm : HM} {hs : Nat} {Q : QT} {m n : Nat} {u : Nat → Int32} {A : Nat → Nat → Int32} {R : Nat → Int64} {e q st q' f : Nat} {lo hi v : Int32}
/-- what reading changes of the numbers -/
def KS (u u' : Nat → Int32) : Prop := ∀ k, k ≠ 8 → k ≠ 9 → k ≠ 10 → k ≠ 11 → u' k = u k
theorem KS.trans {u u' u2 : Nat → Int32} (a : KS u u') (b : KS u' u2) : KS u u2 := fun k h1 h2 h3 h4 => (b k h1 h2 h3 h4).trans (a k h1 h2 h3 h4)
theorem m_numeralw (hM : MO hm m u A R) (h9 : ¬ u 9 = 0) (hQ : Q (some (.int lo)) hm hs) : CC X EV (d + 3) 166 [.ref m, .int lo, .int hi] hm hs Q := by
  refine c_of (ls2 := [.ref m, .int lo, .int hi, .null]) Y166 (Nat.le_of_ble_eq_true rfl) rfl I166 ?_
  simp only [r_al0 dX10_numeral_0, r_getf dX10_numeral_1 F10_76, r_if_eq (tgt := 9) dX10_numeral_4 rfl, r_il1 dX10_numeral_7, r_iret dX10_numeral_8 (Nat.zero_le _) (Nat.zero_le _), r_al0 dX10_numeral_9, List.cons_append, List.nil_append, Nat.reduceAdd, Option.toList, g10_9, z0, hM.r, rd_own hM.r, hM.r, rd_own hM.r]
  exact ⟨fun h => absurd h h9, fun _ => hQ⟩
theorem m_numeral (hM : MO hm m u A R) (hB : BY (A 5) e) (e7 : u 7 = nI e) (he : e ≤ 900) (e8 : u 8 = nI q) (hq : q ≤ e) (h9 : u 9 = 0) (hlo : 0 ≤ lo) (h : nmO (A 5) e q lo hi st q' v f)
    (hQ : ∀ hm' u', MO hm' m u' A R → KS u u' → u' 9 = nI f → (f = 0 → u' 8 = nI q' ∧ u' 11 = nI st ∧ u' 10 = u 10) → (f ≠ 0 → u' 10 = nI st) → sm m (m + 16) hm hm' → Q (some (.int (if f = 0 then v else lo))) hm' hs) : CC X EV (d + 3) 166 [.ref m, .int lo, .int hi] hm hs Q := by
  obtain ⟨hst, hc⟩ := h
  refine c_of (ls2 := [.ref m, .int lo, .int hi, .null]) Y166 (Nat.le_of_ble_eq_true rfl) rfl I166 ?_
  simp only [r_al0 dX10_numeral_0, r_getf dX10_numeral_1 F10_76, r_if_eq (tgt := 9) dX10_numeral_4 rfl, r_il1 dX10_numeral_7, r_iret dX10_numeral_8 (Nat.zero_le _) (Nat.zero_le _), r_al0 dX10_numeral_9, List.cons_append, List.nil_append, Nat.reduceAdd, Option.toList, g10_9, z0, hM.r, rd_own hM.r, hM.r, rd_own hM.r]
  refine ⟨fun _ => ?_, fun h => absurd h9 h⟩
  refine r_iv1 dX10_numeral_10 M10_95 Y160 O160 (Nat.le_of_ble_eq_true rfl) (rcv_own hM.r) (Nat.le_refl _) (Nat.le_refl _) ?_
  refine m_peek hM e7 he e8 hq (fun st0 hm1 hst0 hM1 s1 => ?_)
  have es := nxq_un hst0 hst
  subst es
  have hse := hst.2.1
  have dig : isDg (if st0 < e then A 5 st0 &&& 255 else -1) ↔ (st0 < e ∧ isDg (A 5 st0)) := by
    by_cases hl : st0 < e
    · rw [if_pos hl]
      obtain ⟨b, hb, eb⟩ := hB st0 hl
      rw [(by_dg hb eb).1]; exact ⟨fun z => ⟨hl, z⟩, fun z => z.2⟩
    · rw [if_neg hl]; exact ⟨fun z => absurd z (by unfold isDg; decide), fun z => absurd z.1 hl⟩
  have r9 : (upd u 8 (nI st0)) 9 = 0 := by rw [pk_un (by decide)]; exact h9
  simp only [List.cons_append, List.nil_append, Nat.reduceAdd, Option.toList, z0]
  refine r_ist1 dX10_numeral_13 M10_113 Y163 (Nat.le_of_ble_eq_true rfl) (Nat.le_refl _) (Nat.le_refl _) ?_
  refine m_isDigit (fun hd => ?_) (fun hd => ?_)
  · rcases hc with ⟨-, hc⟩ | ⟨hl, hd0, hq', ev, hc⟩
    · exact absurd (dig.mp hd) hc
    have hqe := hq'.2.1
    have hqs := hq'.1
    have h144 : ∀ hm' u', MO hm' m u' A R → KS u u' → (f = 0 → u' 8 = nI q' ∧ u' 11 = nI st0 ∧ u' 10 = u 10) → (f ≠ 0 → u' 10 = nI st0) → u' 9 = nI f → sm m (m + 16) hm hm' → E1 X EV (d + 2) 10 0 0 (some .int) false cX10_numeral Q 144 [.ref m, .int lo, .int hi, .int (mdg (A 5) st0 (q' - st0))] [] 0 0 hm' hs := by
      intro hm' u' hM' ks hf0 hf1 hf9 s'
      have hQ := hQ hm' u' hM' ks hf9 hf0 hf1 s'
      simp only [r_al0 dX10_numeral_144, r_getf dX10_numeral_145 F10_76, r_if_ne (tgt := 155) dX10_numeral_148 rfl, r_il3 dX10_numeral_151, r_goto (tgt := 156) dX10_numeral_152 rfl, r_il1 dX10_numeral_155, r_iret dX10_numeral_156 (Nat.zero_le _) (Nat.zero_le _), List.cons_append, List.nil_append, Nat.reduceAdd, Option.toList, g10_9, z0, hM'.r, rd_own hM'.r, hM'.r, rd_own hM'.r, hf9]
      rcases hc with ⟨hf, hc⟩ | ⟨hf, hc⟩
      · subst hf
        rw [if_neg (by omega)] at hQ
        exact ⟨fun _ => hQ, fun z => absurd (by decide) z⟩
      · subst hf
        rw [if_pos rfl] at hQ
        have h4 : q' - st0 ≤ 4 := by
          rcases Nat.lt_or_ge 4 (q' - st0) with z | z
          · rw [ev, dgv_5 _ z] at hc; have := hc.1; grind
          · exact z
        rw [mdg_4 _ h4, ← ev]
        exact ⟨fun z => absurd rfl z, fun _ => hQ⟩
    simp (disch := first | omega | (simp only [List.length_cons, List.length_nil]; omega)) only [r_if_ne (tgt := 30) dX10_numeral_16 rfl, r_al0 dX10_numeral_19, r_iconst dX10_numeral_20 ki1, r_al0 dX10_numeral_21, r_getf dX10_numeral_22 F10_70, r_al0 dX10_numeral_30, r_al0 dX10_numeral_31, r_getf dX10_numeral_32 F10_70, r_putf dX10_numeral_35 F10_120, r_iconst dX10_numeral_38 ki0, r_is3 dX10_numeral_39, List.cons_append, List.nil_append, Nat.reduceAdd, Option.toList, cat_f, cat_i, cat_n, cat_r, eq_self, fit_i, ft10_11, g10_8, p10_11, pk_un, pk_us, rd_up_eq, rd_up_ne, true_and, up_eq, up_ne, up_up, z0, hM1.r, rd_own hM1.r, hM1.r, rd_own hM1.r, pk_us]
    refine ⟨fun _ => ?_, fun z => absurd (by decide) z⟩
    suffices H : ∀ k, k ≤ q' - st0 → ∀ hm' u', MO hm' m u' A R → KS u u' → u' 8 = nI (st0 + k) → u' 9 = 0 → u' 10 = u 10 → u' 11 = nI st0 → sm m (m + 16) hm hm' → E1 X EV (d + 2) 10 0 0 (some .int) false cX10_numeral Q 40 [.ref m, .int lo, .int hi, .int (mdg (A 5) st0 k)] [] 0 0 hm' hs from
      H 0 (by omega) _ _ (hM1.o _) (fun k h1 h2 h3 h4 => by rw [pk_un h4, pk_un h1]) (by rw [pk_un (by decide), pk_us]; rfl) (by rw [pk_un (by decide)]; exact r9) (by rw [pk_un (by decide), pk_un (by decide)]) (by rw [pk_us]) (s1.up (by omega))
    refine up_loop (q' - st0) _ ?_ ?_
    · intro hm' u' hM' ks g8 g9 g10 g11 s'
      have g7 : u' 7 = nI e := (ks 7 (by decide) (by decide) (by decide) (by decide)).trans e7
      rw [show st0 + (q' - st0) = q' by omega] at g8
      have h110 : E1 X EV (d + 2) 10 0 0 (some .int) false cX10_numeral Q 110 [.ref m, .int lo, .int hi, .int (mdg (A 5) st0 (q' - st0))] [] 0 0 hm' hs := by
        have bad : (f = 2) → E1 X EV (d + 2) 10 0 0 (some .int) false cX10_numeral Q 135 [.ref m, .int lo, .int hi, .int (mdg (A 5) st0 (q' - st0))] [] 0 0 hm' hs := by
          intro hf
          simp only [r_al0 dX10_numeral_135, r_iconst dX10_numeral_136 ki2, r_al0 dX10_numeral_137, r_getf dX10_numeral_138 F10_120, List.cons_append, List.nil_append, Nat.reduceAdd, Option.toList, g10_11, z0, hM'.r, rd_own hM'.r, hM'.r, rd_own hM'.r, g11]
          refine r_iv3 dX10_numeral_141 M10_116 Y161 O161 (Nat.le_of_ble_eq_true rfl) (rcv_own hM'.r) (Nat.le_refl _) (Nat.le_refl _) ?_
          refine m_fails hM' (fun z => absurd g9 z) (fun _ hm2 hM2 s2 => ?_)
          exact h144 hm2 _ hM2 (fun k h1 h2 h3 h4 => by rw [pk_un h3, pk_un h2]; exact ks k h1 h2 h3 h4) (fun z => absurd z (by omega)) (fun _ => pk_us) (by rw [pk_un (by decide), pk_us, hf]; rfl) (s'.trans s2)
        simp only [r_al0 dX10_numeral_110, r_getf dX10_numeral_111 F10_70, r_al0 dX10_numeral_114, r_getf dX10_numeral_115 F10_120, r_isub dX10_numeral_118, r_iconst dX10_numeral_119 ki4, r_ic_gtB (tgt := 135) dX10_numeral_120 rfl, r_il3 dX10_numeral_123, r_i2l dX10_numeral_124, r_il1 dX10_numeral_125, r_i2l dX10_numeral_126, r_il2 dX10_numeral_127, r_i2l dX10_numeral_128, List.cons_append, List.nil_append, Nat.reduceAdd, Option.toList, g10_11, g10_8, z0, hM'.r, rd_own hM'.r, hM'.r, rd_own hM'.r, g8, g11, nI_sub hqs, show (4 : Int32) = nI 4 from rfl]
        try simp (disch := omega) only [E2, nI_1, nI_add, nI_leI, nI_ltI, nI_eq, nI_clamp]
        refine ⟨fun z => bad ?_, fun z => ?_⟩
        · rcases hc with ⟨hf, -⟩ | ⟨hf, hc⟩
          · exact hf
          · rw [ev, dgv_5 _ (by omega)] at hc; have := hc.1; grind
        · refine r_ist3 dX10_numeral_129 M10_83 Y155 (Nat.le_of_ble_eq_true rfl) (Nat.le_refl _) (Nat.le_refl _) ?_
          refine m_in ?_
          simp only [r_if_neB (tgt := 144) dX10_numeral_132 rfl, List.cons_append, List.nil_append, Nat.reduceAdd, Option.toList, z0]
          have em : mdg (A 5) st0 (q' - st0) = v := by rw [mdg_4 _ (by omega), ev]
          rw [em] at h144 bad ⊢
          refine ⟨fun z => ?_, fun z => bad ?_⟩
          · try simp (disch := omega) only [E2, nI_1, nI_add, nI_leI, nI_ltI, nI_eq, nI_clamp]
            rcases hc with ⟨hf, hc⟩ | ⟨hf, hc⟩
            · exact absurd (Classical.not_not.mp z) hc
            · subst hf
              exact h144 hm' u' hM' ks (fun _ => ⟨g8, g11, g10⟩) (fun z => absurd rfl z) g9 s'
          · rcases hc with ⟨hf, hc⟩ | ⟨hf, hc⟩
            · exact hf
            · exact absurd hc (Classical.not_not.mp z)
      simp only [r_al0 dX10_numeral_40, r_getf dX10_numeral_41 F10_70, r_al0 dX10_numeral_44, r_getf dX10_numeral_45 F10_73, r_ic_geB (tgt := 110) dX10_numeral_48 rfl, r_al0 dX10_numeral_51, r_getf dX10_numeral_52 F10_23, r_al0 dX10_numeral_55, r_getf dX10_numeral_56 F10_70, r_bald dX10_numeral_59, List.cons_append, List.nil_append, Nat.reduceAdd, Option.toList, aB_ok, g10_5, g10_7, g10_8, z0, hM'.r, rd_own hM'.r, hM'.r5, rd_own hM'.r5, g7, g8]
      try simp (disch := omega) only [E2, nI_1, nI_add, nI_leI, nI_ltI, nI_eq, nI_clamp]
      refine ⟨fun _ => h110, fun z => ⟨vp_in_nI (by omega) (by omega), ?_⟩⟩
      refine r_ist1 dX10_numeral_60 M10_113 Y163 (Nat.le_of_ble_eq_true rfl) (Nat.le_refl _) (Nat.le_refl _) ?_
      refine m_isDigit (fun hd => absurd hd (hq'.2.2.2 (by omega))) (fun _ => ?_)
      simp (disch := first | omega | (simp only [List.length_cons, List.length_nil]; omega)) only [r_if_eqB (tgt := 110) dX10_numeral_63 rfl, r_al0 dX10_numeral_66, r_getf dX10_numeral_67 F10_70, r_al0 dX10_numeral_70, r_getf dX10_numeral_71 F10_120, r_isub dX10_numeral_74, r_iconst dX10_numeral_75 ki4, r_ic_ge (tgt := 97) dX10_numeral_76 rfl, r_bipush dX10_numeral_79 kb10, r_il3 dX10_numeral_81, r_imul dX10_numeral_82, r_al0 dX10_numeral_83, r_getf dX10_numeral_84 F10_23, r_al0 dX10_numeral_87, r_getf dX10_numeral_88 F10_70, r_bald dX10_numeral_91, r_iadd dX10_numeral_92, r_bipush dX10_numeral_93 kb48, r_isub dX10_numeral_95, r_is3 dX10_numeral_96, r_al0 dX10_numeral_97, r_dup_i dX10_numeral_98, r_dup_r dX10_numeral_98, r_getf dX10_numeral_99 F10_70, r_iconst dX10_numeral_102 ki1, r_iadd dX10_numeral_103, r_putf dX10_numeral_104 F10_70, r_gotoB (tgt := 40) dX10_numeral_107 rfl, List.cons_append, List.nil_append, Nat.reduceAdd, Option.toList, aB_ok, cat_f, cat_i, cat_n, cat_r, eq_self, fit_i, ft10_8, g10_11, g10_5, g10_8, p10_8, pk_un, pk_us, rd_up_eq, rd_up_ne, true_and, up_eq, up_ne, up_up, z0]
      try simp (disch := omega) only [E2, nI_1, nI_add, nI_leI, nI_ltI, nI_eq, nI_clamp]
      exact ⟨fun _ => h110, fun z => absurd trivial z⟩
    · intro k hk ih hm' u' hM' ks g8 g9 g10 g11 s'
      have g7 : u' 7 = nI e := (ks 7 (by decide) (by decide) (by decide) (by decide)).trans e7
      simp only [r_al0 dX10_numeral_40, r_getf dX10_numeral_41 F10_70, r_al0 dX10_numeral_44, r_getf dX10_numeral_45 F10_73, r_ic_geB (tgt := 110) dX10_numeral_48 rfl, r_al0 dX10_numeral_51, r_getf dX10_numeral_52 F10_23, r_al0 dX10_numeral_55, r_getf dX10_numeral_56 F10_70, r_bald dX10_numeral_59, List.cons_append, List.nil_append, Nat.reduceAdd, Option.toList, aB_ok, g10_5, g10_7, g10_8, z0, hM'.r, rd_own hM'.r, hM'.r5, rd_own hM'.r5, g7, g8]
      try simp (disch := omega) only [E2, nI_1, nI_add, nI_leI, nI_ltI, nI_eq, nI_clamp]
      refine ⟨fun z => absurd z (by omega), fun z => ⟨vp_in_nI (by omega) (by omega), ?_⟩⟩
      refine r_ist1 dX10_numeral_60 M10_113 Y163 (Nat.le_of_ble_eq_true rfl) (Nat.le_refl _) (Nat.le_refl _) ?_
      refine m_isDigit (fun _ => ?_) (fun hd => absurd (hq'.2.2.1 (st0 + k) (by omega) (by omega)) hd)
      have hin := vp_in_nI (show st0 + k < 900 by omega) (by omega)
      simp (disch := first | omega | (simp only [List.length_cons, List.length_nil]; omega)) only [r_if_eqB (tgt := 110) dX10_numeral_63 rfl, r_al0 dX10_numeral_66, r_getf dX10_numeral_67 F10_70, r_al0 dX10_numeral_70, r_getf dX10_numeral_71 F10_120, r_isub dX10_numeral_74, r_iconst dX10_numeral_75 ki4, r_ic_ge (tgt := 97) dX10_numeral_76 rfl, r_bipush dX10_numeral_79 kb10, r_il3 dX10_numeral_81, r_imul dX10_numeral_82, r_al0 dX10_numeral_83, r_getf dX10_numeral_84 F10_23, r_al0 dX10_numeral_87, r_getf dX10_numeral_88 F10_70, r_bald dX10_numeral_91, r_iadd dX10_numeral_92, r_bipush dX10_numeral_93 kb48, r_isub dX10_numeral_95, r_is3 dX10_numeral_96, r_al0 dX10_numeral_97, r_dup_i dX10_numeral_98, r_dup_r dX10_numeral_98, r_getf dX10_numeral_99 F10_70, r_iconst dX10_numeral_102 ki1, r_iadd dX10_numeral_103, r_putf dX10_numeral_104 F10_70, r_gotoB (tgt := 40) dX10_numeral_107 rfl, List.cons_append, List.nil_append, Nat.reduceAdd, Option.toList, aB_ok, cat_f, cat_i, cat_n, cat_r, eq_self, fit_i, ft10_8, g10_11, g10_5, g10_8, p10_8, pk_un, pk_us, rd_up_eq, rd_up_ne, true_and, up_eq, up_ne, up_up, z0, hM'.r, rd_own hM'.r, hM'.r5, rd_own hM'.r5, g8, g11, nI_sub (show st0 ≤ st0 + k by omega), show st0 + k - st0 = k by omega, nI_clamp (show st0 + k < 2 ^ 31 by omega)]
      try simp (disch := omega) only [E2, nI_1, nI_add, nI_leI, nI_ltI, nI_eq, nI_clamp]
      have em : mdg (A 5) st0 (k + 1) = if 4 ≤ k then mdg (A 5) st0 k else 10 * mdg (A 5) st0 k + A 5 (st0 + k) - 48 := rfl
      have ih := ih _ _ (hM'.o (upd u' 8 (nI (st0 + k + 1)))) (fun k h1 h2 h3 h4 => by rw [pk_un h1]; exact ks k h1 h2 h3 h4) pk_us (by rw [pk_un (by decide)]; exact g9) (by rw [pk_un (by decide)]; exact g10) (by rw [pk_un (by decide)]; exact g11) (s'.up (by omega))
      rw [em] at ih
      refine ⟨fun z => absurd z (by decide), fun _ => ⟨fun z => ?_, fun z => ⟨hin, ?_⟩⟩⟩
      · rw [show (4 : Int32) = nI 4 from rfl, nI_leI (by omega) (by omega)] at z
        rw [if_pos z] at ih; exact ih
      · rw [show (4 : Int32) = nI 4 from rfl, nI_leI (by omega) (by omega)] at z
        rw [if_neg z] at ih; exact ih
  · rcases hc with ⟨hf, hc⟩ | ⟨hl, hd0, -⟩
    · subst hf
      simp (disch := first | omega | (simp only [List.length_cons, List.length_nil]; omega)) only [r_if_ne (tgt := 30) dX10_numeral_16 rfl, r_al0 dX10_numeral_19, r_iconst dX10_numeral_20 ki1, r_al0 dX10_numeral_21, r_getf dX10_numeral_22 F10_70, r_al0 dX10_numeral_30, r_al0 dX10_numeral_31, r_getf dX10_numeral_32 F10_70, r_putf dX10_numeral_35 F10_120, r_iconst dX10_numeral_38 ki0, r_is3 dX10_numeral_39, r_al0 dX10_numeral_40, r_getf dX10_numeral_41 F10_70, r_al0 dX10_numeral_44, r_getf dX10_numeral_45 F10_73, r_ic_ge (tgt := 110) dX10_numeral_48 rfl, r_al0 dX10_numeral_51, r_getf dX10_numeral_52 F10_23, r_al0 dX10_numeral_55, r_getf dX10_numeral_56 F10_70, r_bald dX10_numeral_59, r_al0 dX10_numeral_110, r_getf dX10_numeral_111 F10_70, r_al0 dX10_numeral_114, r_getf dX10_numeral_115 F10_120, r_isub dX10_numeral_118, r_iconst dX10_numeral_119 ki4, r_ic_gt (tgt := 135) dX10_numeral_120 rfl, r_il3 dX10_numeral_123, r_i2l dX10_numeral_124, r_il1 dX10_numeral_125, r_i2l dX10_numeral_126, r_il2 dX10_numeral_127, r_i2l dX10_numeral_128, r_al0 dX10_numeral_135, r_iconst dX10_numeral_136 ki2, r_al0 dX10_numeral_137, r_getf dX10_numeral_138 F10_120, List.cons_append, List.nil_append, Nat.reduceAdd, Option.toList, aB_ok, cat_f, cat_i, cat_n, cat_r, eq_self, fit_i, ft10_11, g10_11, g10_5, g10_7, g10_8, p10_11, pk_un, pk_us, rd_up_eq, rd_up_ne, true_and, up_eq, up_ne, up_up, z0, hM1.r, rd_own hM1.r, hM1.r, rd_own hM1.r, pk_us]
      refine ⟨fun z => absurd trivial z, fun _ => ?_⟩
      refine r_iv3 dX10_numeral_25 M10_116 Y161 O161 (Nat.le_of_ble_eq_true rfl) (rcv_own hM1.r) (Nat.le_refl _) (Nat.le_refl _) ?_
      refine m_fails hM1 (fun z => absurd r9 z) (fun _ hm2 hM2 s2 => ?_)
      simp only [r_il1 dX10_numeral_28, r_iret dX10_numeral_29 (Nat.zero_le _) (Nat.zero_le _), List.cons_append, List.nil_append, Nat.reduceAdd, Option.toList, z0]
      have hQ := hQ hm2 _ hM2 (fun k h1 h2 h3 h4 => by rw [pk_un h3, pk_un h2, pk_un h1]) (by rw [pk_un (by decide), pk_us]; rfl) (fun z => absurd z (by omega)) (fun _ => pk_us) (s1.trans s2)
      rw [if_neg (by omega)] at hQ
      exact hQ
    · exact absurd (dig.mpr ⟨hl, hd0⟩) hd
end MA
