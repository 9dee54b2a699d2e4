/-! ===== the model reads: the word of a line ===== -/
def kyl : List Nat := [32, 112, 97, 103, 101, 32, 115, 116, 114, 111, 107, 101, 32, 104, 97, 110, 100, 32, 111, 118, 101, 114, 32, 108, 101, 116, 116, 101, 114, 32, 112, 108, 97, 99, 101, 32, 119, 111, 114, 100, 32, 114, 117, 110, 32]
def kyc (i : Nat) : Nat := kyl.getD i 0
def kps : Nat → Nat
  | 0 => 1
  | k + 1 => kps k + kwL k + 1
theorem ky_ok : ∀ i, i < 45 → kyc i < 128 := by decide +kernel
theorem ky_w : ∀ k, k < 8 → kps k + kwL k < 45 ∧ kwL k < 10 ∧ kyc (kps k + kwL k) = 32 ∧ (∀ i, i < 10 → i < kwL k → kyc (kps k + i) = kwc k i ∧ kwc k i ≠ 32 ∧ kwc k i < 128) := by decide +kernel
theorem ky_8 : kps 8 = 45 := by decide +kernel
def KY (X : HM) (EV : Nat → Value) (B : Nat) : Prop := EV 2 = .int 1 ∧ (EV 3 = .null ∨ ∃ x, EV 3 = .ref x) ∧ ∃ sr v, EV 12 = .ref sr ∧ sr < B ∧ v < B ∧ X sr = some (.inr (12, [.ref v, .int 0])) ∧ X v = some (ba 45 (fun i => nI (kyc i)))
theorem KY.str {X : HM} {EV : Nat → Value} {B : Nat} {hm : HM} (h : KY X EV B) (hl : lowN B hm) : ∃ sr, EV 12 = .ref sr ∧ STR X EV hm sr 45 kyc := by
  obtain ⟨h1, h2, sr, v, e1, e2, e3, e4, e5⟩ := h
  exact ⟨sr, e1, h1, h2, v, by rw [rd_ext (hl sr e2)]; exact e4, by rw [rd_ext (hl v e3)]; exact e5, by omega, ky_ok⟩
theorem nxq_0 {T : Nat → Int32} {e st z : Nat} (h : nxq T e isSm st (st + z)) (hl : st < e) (hs : isSm (T st)) : 0 < z := by
  rcases Nat.eq_zero_or_pos z with h0 | h0
  · subst h0; exact absurd hs (h.2.2.2 hl)
  · exact h0
section MB
variable {X : HM} {EV : Nat → Value} {d : Nat} {hm : HM} {hs : Nat} {Q : QT} {B m n : Nat} {u : Nat → Int32} {A : Nat → Nat → Int32} {R : Nat → Int64} {e q st q' f : Nat} {lo hi v : Int32}
theorem m_wordHere (hM : MO hm m u A R) (hB : BY (A 5) e) (hK : KY X EV B) (hlo : lowN B hm) (hBm : B ≤ m) (e7 : u 7 = nI e) (he : e ≤ 900) (e8 : u 8 = nI q) (hq : q ≤ e) (h9 : u 9 = 0)
    (h0 : ∀ st hm', nxq (A 5) e (fun x => x = 32) q st → ¬ (st < e ∧ isSm (A 5 st)) → MO hm' m (upd u 8 (nI st)) A R → sm m (m + 16) hm hm' → Q (some (.int (-1))) hm' hs)
    (h1 : ∀ st z hm', nxq (A 5) e (fun x => x = 32) q st → st < e → isSm (A 5 st) → nxq (A 5) e isSm st (st + z) → MO hm' m (upd u 8 (nI st)) A R → sm m (m + 16) hm hm' → (∀ k, k < 8 → isKey (A 5) st z k → Q (some (.int (nI k))) hm' hs) ∧ ((∀ k, k < 8 → ¬ isKey (A 5) st z k) → Q (some (.int (-1))) hm' hs)) : CC X EV (d + 5) 165 [.ref m] hm hs Q := by
  refine c_of (ls2 := [.ref m, .null, .null, .null, .null, .null, .null]) Y165 (Nat.le_of_ble_eq_true rfl) rfl I165 ?_
  simp only [r_al0 dX10_wordHere_0, r_getf dX10_wordHere_1 F10_76, r_if_ne (tgt := 17) dX10_wordHere_4 rfl, r_al0 dX10_wordHere_7, r_iconst dX10_wordHere_17 kim1, r_iret dX10_wordHere_18 (Nat.zero_le _) (Nat.zero_le _), List.cons_append, List.nil_append, Nat.reduceAdd, Option.toList, g10_9, z0, hM.r, rd_own hM.r, hM.r, rd_own hM.r, h9]
  refine ⟨fun z => absurd trivial z, fun _ => ?_⟩
  refine r_iv1 dX10_wordHere_8 M10_95 Y160 O160 (Nat.le_of_ble_eq_true rfl) (rcv_own hM.r) (Nat.le_refl _) (Nat.le_refl _) ?_
  refine m_peek hM e7 he e8 hq (fun st hm1 hst hM1 s1 => ?_)
  have hse := hst.2.1
  have sml : isSm (if st < e then A 5 st &&& 255 else -1) ↔ (st < e ∧ isSm (A 5 st)) := by
    by_cases hl : st < e
    · rw [if_pos hl]
      obtain ⟨b, hb, eb⟩ := hB st hl
      rw [(by_dg hb eb).2.1]; exact ⟨fun z => ⟨hl, z⟩, fun z => z.2⟩
    · rw [if_neg hl]; exact ⟨fun z => absurd z (by unfold isSm; decide), fun z => absurd z.1 hl⟩
  have h0 := h0 st hm1 hst
  have h1 := fun z => h1 st z hm1 hst
  have r7 : (upd u 8 (nI st)) 7 = nI e := (pk_un (by decide)).trans e7
  simp only [List.cons_append, List.nil_append, Nat.reduceAdd, Option.toList, z0]
  refine r_ist1 dX10_wordHere_11 M10_91 Y162 (Nat.le_of_ble_eq_true rfl) (Nat.le_refl _) (Nat.le_refl _) ?_
  refine m_isLetter (fun hd => ?_) (fun hd => ?_)
  · obtain ⟨hl, hsm⟩ := sml.mp hd
    simp only [r_if_ne (tgt := 19) dX10_wordHere_14 rfl, r_iconst dX10_wordHere_17 kim1, r_iret dX10_wordHere_18 (Nat.zero_le _) (Nat.zero_le _), r_al0 dX10_wordHere_19, List.cons_append, List.nil_append, Nat.reduceAdd, Option.toList, z0]
    refine ⟨fun _ => ?_, fun z => absurd (by decide) z⟩
    refine r_iv1 dX10_wordHere_20 M10_99 Y164 O164 (Nat.le_of_ble_eq_true rfl) (rcv_own hM1.r) (Nat.le_refl _) (Nat.le_refl _) ?_
    refine m_lettersHere hM1 r7 he pk_us hse (fun z hz => ?_)
    have hze := hz.2.1
    obtain ⟨y1, y2⟩ := h1 z hl hsm hz hM1 s1
    obtain ⟨sr, eK, hS⟩ := hK.str (hm := hm1) (fun a ha => by rw [s1 a (by omega)]; exact hlo a ha)
    obtain ⟨-, -, vv, hr, -⟩ := id hS
    simp only [r_is1 dX10_wordHere_23, r_iconst dX10_wordHere_24 ki0, r_is2 dX10_wordHere_25, r_iconst dX10_wordHere_26 ki1, r_is3 dX10_wordHere_27, List.cons_append, List.nil_append, Nat.reduceAdd, Option.toList, cat_f, cat_i, cat_n, cat_r, eq_self, true_and, z0]
    suffices H : ∀ n, n ≤ 8 → (∀ k, k < n → ¬ isKey (A 5) st z k) → ∀ a b c, E1 X EV (d + 4) 10 0 0 (some .int) false cX10_wordHere Q 28 [.ref m, .int (nI z), .int (nI n), .int (nI (kps n)), a, b, c] [] 0 0 hm1 hs from H 0 (by omega) (fun k hk => absurd hk (by omega)) _ _ _
    refine up_loop 8 _ ?_ ?_
    · intro hno a b c
      simp only [r_il3 dX10_wordHere_28, r_ldcs dX10_wordHere_29 K10_102, List.cons_append, List.nil_append, Nat.reduceAdd, Option.toList, z0, eK]
      refine r_iv1 dX10_wordHere_31 M10_104 Y264 O264 (Nat.le_of_ble_eq_true rfl) (by rw [hr]; exact rfl) (Nat.le_refl _) (Nat.le_refl _) ?_
      refine c_length hS ?_
      simp only [r_ic_ge (tgt := 142) dX10_wordHere_34 rfl, r_il3 dX10_wordHere_37, r_is4 dX10_wordHere_38, r_ldcs dX10_wordHere_40 K10_102, r_il4 dX10_wordHere_42, r_iconst dX10_wordHere_142 kim1, r_iret dX10_wordHere_143 (Nat.zero_le _) (Nat.zero_le _), List.cons_append, List.nil_append, Nat.reduceAdd, Option.toList, cat_f, cat_i, cat_n, cat_r, eq_self, true_and, z0, eK, ky_8]
      exact ⟨fun _ => y2 hno, fun z => absurd (Int32.le_refl _) z⟩
    · intro n hn ih hno a b c
      obtain ⟨k1, k2, k3, k4⟩ := ky_w n hn
      simp only [r_il3 dX10_wordHere_28, r_ldcs dX10_wordHere_29 K10_102, List.cons_append, List.nil_append, Nat.reduceAdd, Option.toList, z0, eK]
      refine r_iv1 dX10_wordHere_31 M10_104 Y264 O264 (Nat.le_of_ble_eq_true rfl) (by rw [hr]; exact rfl) (Nat.le_refl _) (Nat.le_refl _) ?_
      refine c_length hS ?_
      simp only [r_ic_ge (tgt := 142) dX10_wordHere_34 rfl, r_il3 dX10_wordHere_37, r_is4 dX10_wordHere_38, r_iconst dX10_wordHere_142 kim1, r_iret dX10_wordHere_143 (Nat.zero_le _) (Nat.zero_le _), List.cons_append, List.nil_append, Nat.reduceAdd, Option.toList, cat_f, cat_i, cat_n, cat_r, eq_self, true_and, z0]
      try simp (disch := omega) only [E2, nI_1, nI_add, nI_leI, nI_ltI, nI_eq, nI_clamp]
      refine ⟨fun z => absurd z (by omega), fun _ => ?_⟩
      have h124 : ∀ lk c, (lk = 1 ∧ isKey (A 5) st z n ∨ lk = 0 ∧ ¬ isKey (A 5) st z n) → E1 X EV (d + 4) 10 0 0 (some .int) false cX10_wordHere Q 124 [.ref m, .int (nI z), .int (nI n), .int (nI (kps n)), .int (nI (kps n + kwL n)), .int lk, c] [] 0 0 hm1 hs := by
        intro lk c hlk
        rcases hlk with ⟨rfl, hk⟩ | ⟨rfl, hk⟩
        · skip
          simp only [r_il5 dX10_wordHere_124, r_if_eq (tgt := 131) dX10_wordHere_126 rfl, r_il2 dX10_wordHere_129, r_iret dX10_wordHere_130 (Nat.zero_le _) (Nat.zero_le _), r_ii2 dX10_wordHere_131 kn1, r_il4 dX10_wordHere_134, r_iconst dX10_wordHere_136 ki1, r_iadd dX10_wordHere_137, r_is3 dX10_wordHere_138, r_gotoB (tgt := 28) dX10_wordHere_139 rfl, List.cons_append, List.nil_append, Nat.reduceAdd, Option.toList, cat_f, cat_i, cat_n, cat_r, eq_self, true_and, z0]
          exact ⟨fun z => absurd z (by decide), fun _ => y1 n hn hk⟩
        · have ih := ih (fun k hkn => by
            rcases Nat.lt_or_ge k n with h' | h'
            · exact hno k h'
            · rw [show k = n by omega]; exact hk) (.int (nI (kps n + kwL n))) (.int 0) c
          simp only [r_il5 dX10_wordHere_124, r_if_eq (tgt := 131) dX10_wordHere_126 rfl, r_il2 dX10_wordHere_129, r_iret dX10_wordHere_130 (Nat.zero_le _) (Nat.zero_le _), r_ii2 dX10_wordHere_131 kn1, r_il4 dX10_wordHere_134, r_iconst dX10_wordHere_136 ki1, r_iadd dX10_wordHere_137, r_is3 dX10_wordHere_138, r_gotoB (tgt := 28) dX10_wordHere_139 rfl, List.cons_append, List.nil_append, Nat.reduceAdd, Option.toList, cat_f, cat_i, cat_n, cat_r, eq_self, true_and, z0]
          try simp (disch := omega) only [E2, nI_1, nI_add, nI_leI, nI_ltI, nI_eq, nI_clamp]
          exact ⟨fun _ => ih, fun z => absurd trivial z⟩
      have h58 : ∀ b c, E1 X EV (d + 4) 10 0 0 (some .int) false cX10_wordHere Q 58 [.ref m, .int (nI z), .int (nI n), .int (nI (kps n)), .int (nI (kps n + kwL n)), b, c] [] 0 0 hm1 hs := by
        intro b c
        have h76z : ¬ isKey (A 5) st z n → ∀ x : Int32, E1 X EV (d + 4) 10 0 0 (some .int) false cX10_wordHere Q 76 [.ref m, .int (nI z), .int (nI n), .int (nI (kps n)), .int (nI (kps n + kwL n)), .int 0, .int x] [] 0 0 hm1 hs := by
          intro hno2 x
          have hh := h124 0 (.int x) (.inr ⟨rfl, hno2⟩)
          simp only [r_il6 dX10_wordHere_76, r_il1 dX10_wordHere_78, r_ic_geB (tgt := 124) dX10_wordHere_79 rfl, r_il5 dX10_wordHere_82, r_if_eqB (tgt := 124) dX10_wordHere_84 rfl, r_ldcs dX10_wordHere_87 K10_102, r_il3 dX10_wordHere_89, r_il6 dX10_wordHere_90, r_iadd dX10_wordHere_92, List.cons_append, List.nil_append, Nat.reduceAdd, Option.toList, z0]
          try simp (disch := omega) only [E2, nI_1, nI_add, nI_leI, nI_ltI, nI_eq, nI_clamp]
          exact ⟨fun _ => hh, fun _ => ⟨fun _ => hh, fun z => absurd trivial z⟩⟩
        have h76 : z = kwL n → ∀ i, i ≤ kwL n → (∀ j, j < i → A 5 (st + j) = nI (kwc n j)) → E1 X EV (d + 4) 10 0 0 (some .int) false cX10_wordHere Q 76 [.ref m, .int (nI z), .int (nI n), .int (nI (kps n)), .int (nI (kps n + kwL n)), .int 1, .int (nI i)] [] 0 0 hm1 hs := by
          intro ez
          refine up_loop (kwL n) _ ?_ ?_
          · intro hall
            simp only [r_il6 dX10_wordHere_76, r_il1 dX10_wordHere_78, r_ic_geB (tgt := 124) dX10_wordHere_79 rfl, r_il5 dX10_wordHere_82, r_if_eqB (tgt := 124) dX10_wordHere_84 rfl, r_ldcs dX10_wordHere_87 K10_102, r_il3 dX10_wordHere_89, r_il6 dX10_wordHere_90, r_iadd dX10_wordHere_92, List.cons_append, List.nil_append, Nat.reduceAdd, Option.toList, z0, eK]
            try simp (disch := omega) only [E2, nI_1, nI_add, nI_leI, nI_ltI, nI_eq, nI_clamp]
            exact ⟨fun _ => h124 1 _ (.inl ⟨rfl, ez, hall⟩), fun z => absurd (by omega) z⟩
          · intro i hi ih hall
            obtain ⟨g1, g2, g3⟩ := k4 i (by omega) hi
            simp only [r_il6 dX10_wordHere_76, r_il1 dX10_wordHere_78, r_ic_geB (tgt := 124) dX10_wordHere_79 rfl, r_il5 dX10_wordHere_82, r_if_eqB (tgt := 124) dX10_wordHere_84 rfl, r_ldcs dX10_wordHere_87 K10_102, r_il3 dX10_wordHere_89, r_il6 dX10_wordHere_90, r_iadd dX10_wordHere_92, List.cons_append, List.nil_append, Nat.reduceAdd, Option.toList, z0, eK]
            try simp (disch := omega) only [E2, nI_1, nI_add, nI_leI, nI_ltI, nI_eq, nI_clamp]
            refine ⟨fun z => absurd z (by omega), fun _ => ⟨fun z => absurd z (by decide), fun _ => ?_⟩⟩
            refine r_iv2 dX10_wordHere_93 M10_109 Y265 O265 (Nat.le_of_ble_eq_true rfl) (by rw [hr]; exact rfl) (Nat.le_refl _) (Nat.le_refl _) ?_
            refine c_charAt hS (by omega) ?_
            simp only [r_al0 dX10_wordHere_96, r_getf dX10_wordHere_97 F10_23, r_al0 dX10_wordHere_100, r_getf dX10_wordHere_101 F10_70, r_il6 dX10_wordHere_104, r_iadd dX10_wordHere_106, r_bald dX10_wordHere_107, r_ic_ne (tgt := 115) dX10_wordHere_108 rfl, r_iconst dX10_wordHere_111 ki1, r_goto (tgt := 116) dX10_wordHere_112 rfl, r_iconst dX10_wordHere_115 ki0, r_is5 dX10_wordHere_116, r_ii6 dX10_wordHere_118 kn1, r_gotoB (tgt := 76) dX10_wordHere_121 rfl, List.cons_append, List.nil_append, Nat.reduceAdd, Option.toList, aB_ok, cat_f, cat_i, cat_n, cat_r, eq_self, g10_5, g10_8, true_and, z0, hM1.r, rd_own hM1.r, hM1.r5, rd_own hM1.r5, pk_us, g1, nI_add, nI_clamp (show st + i < 2 ^ 31 by omega)]
            refine ⟨vp_in_nI (by omega) (by omega), fun hne => ?_, fun heq => ?_⟩
            · try simp (disch := omega) only [E2, nI_1, nI_add, nI_leI, nI_ltI, nI_eq, nI_clamp]
              exact h76z (fun z => hne (z.2 i hi).symm) _
            · try simp (disch := omega) only [E2, nI_1, nI_add, nI_leI, nI_ltI, nI_eq, nI_clamp]
              exact ih (fun j hj => by
                rcases Nat.lt_or_ge j i with h' | h'
                · exact hall j h'
                · rw [show j = i by omega]; exact (Classical.not_not.mp heq).symm)
        simp only [r_il4 dX10_wordHere_58, r_il3 dX10_wordHere_60, r_isub dX10_wordHere_61, r_il1 dX10_wordHere_62, r_ic_ne (tgt := 70) dX10_wordHere_63 rfl, r_iconst dX10_wordHere_66 ki1, r_goto (tgt := 71) dX10_wordHere_67 rfl, r_iconst dX10_wordHere_70 ki0, r_is5 dX10_wordHere_71, r_iconst dX10_wordHere_73 ki0, r_is6 dX10_wordHere_74, List.cons_append, List.nil_append, Nat.reduceAdd, Option.toList, cat_f, cat_i, cat_n, cat_r, eq_self, true_and, z0, nI_sub (show kps n ≤ kps n + kwL n by omega), show kps n + kwL n - kps n = kwL n by omega]
        refine ⟨fun hne => ?_, fun heq => ?_⟩
        · have hno2 : ¬ isKey (A 5) st z n := fun z => hne (by rw [z.1])
          exact h76z hno2 0
        · have heq := Classical.not_not.mp heq
          rw [nI_eq (by omega) (by omega)] at heq
          exact h76 heq.symm 0 (by omega) (fun j hj => absurd hj (by omega))
      suffices H : ∀ i, i ≤ kwL n → ∀ b c, E1 X EV (d + 4) 10 0 0 (some .int) false cX10_wordHere Q 40 [.ref m, .int (nI z), .int (nI n), .int (nI (kps n)), .int (nI (kps n + i)), b, c] [] 0 0 hm1 hs from H 0 (by omega) _ _
      refine up_loop (kwL n) _ ?_ ?_
      · intro b c
        simp only [r_ldcs dX10_wordHere_40 K10_102, r_il4 dX10_wordHere_42, List.cons_append, List.nil_append, Nat.reduceAdd, Option.toList, z0, eK]
        refine r_iv2 dX10_wordHere_44 M10_109 Y265 O265 (Nat.le_of_ble_eq_true rfl) (by rw [hr]; exact rfl) (Nat.le_refl _) (Nat.le_refl _) ?_
        refine c_charAt hS (by omega) ?_
        simp only [r_bipush dX10_wordHere_47 kb32, r_ic_eqB (tgt := 58) dX10_wordHere_49 rfl, r_ii4 dX10_wordHere_52 kn1, r_gotoB (tgt := 40) dX10_wordHere_55 rfl, List.cons_append, List.nil_append, Nat.reduceAdd, Option.toList, cat_f, cat_i, cat_n, cat_r, eq_self, true_and, z0, k3]
        try simp (disch := omega) only [E2, nI_1, nI_add, nI_leI, nI_ltI, nI_eq, nI_clamp]
        exact ⟨fun _ => h58 b c, fun z => absurd (by decide) z⟩
      · intro i hi ih b c
        obtain ⟨g1, g2, g3⟩ := k4 i (by omega) hi
        simp only [r_ldcs dX10_wordHere_40 K10_102, r_il4 dX10_wordHere_42, List.cons_append, List.nil_append, Nat.reduceAdd, Option.toList, z0, eK]
        refine r_iv2 dX10_wordHere_44 M10_109 Y265 O265 (Nat.le_of_ble_eq_true rfl) (by rw [hr]; exact rfl) (Nat.le_refl _) (Nat.le_refl _) ?_
        refine c_charAt hS (by omega) ?_
        simp only [r_bipush dX10_wordHere_47 kb32, r_ic_eqB (tgt := 58) dX10_wordHere_49 rfl, r_ii4 dX10_wordHere_52 kn1, r_gotoB (tgt := 40) dX10_wordHere_55 rfl, List.cons_append, List.nil_append, Nat.reduceAdd, Option.toList, cat_f, cat_i, cat_n, cat_r, eq_self, true_and, z0, g1]
        try simp (disch := omega) only [E2, nI_1, nI_add, nI_leI, nI_ltI, nI_eq, nI_clamp]
        refine ⟨fun z => absurd z ?_, fun _ => ih b c⟩
        rw [show (32 : Int32) = nI 32 from rfl, nI_eq (by omega) (by omega)]; exact g2
  · skip
    simp only [r_if_ne (tgt := 19) dX10_wordHere_14 rfl, r_iconst dX10_wordHere_17 kim1, r_iret dX10_wordHere_18 (Nat.zero_le _) (Nat.zero_le _), r_al0 dX10_wordHere_19, List.cons_append, List.nil_append, Nat.reduceAdd, Option.toList, z0]
    exact ⟨fun z => absurd trivial z, fun _ => h0 (fun z => hd (sml.mpr z)) hM1 s1⟩
end MB
