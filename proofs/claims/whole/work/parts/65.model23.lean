/-- how far a stroke is over another one, told step by told step -/
def DST (S : Nat → Int32) (n to : Nat) (dst : Nat → Nat) : Prop := (∀ k, k < n → k ≠ to → (bt (S (195 + k)) to = true ↔ dst k = 1)) ∧ (∀ k j, k < n → j < n → k ≠ to → j ≠ to → bt (S (195 + k)) j = true → dst k ≤ dst j + 1) ∧
  (∀ k r, k < n → k ≠ to → 1 ≤ r → r ≤ 11 → dst k = r + 1 → ∃ j, j < n ∧ bt (S (195 + k)) j = true ∧ dst j = r) ∧ dst to = 0 ∧ (∀ k, k < n → dst k = 0 → k = to)
/-- the next of a ring: the first that is told and one step nearer -/
def nxR (S : Nat → Int32) (n : Nat) (dst : Nat → Nat) (l r : Nat) : Nat := fstN (fun k => bt (S (195 + l)) k = true ∧ dst k = r) n
section M23
variable {X : HM} {EV : Nat → Value} {d : Nat} {hs : Nat} {m n : Nat} {A : Nat → Nat → Int32} {R : Nat → Int64}
theorem m_leads {to : Nat} {dst : Nat → Nat} (hn : A 0 2 = nI n) (hn12 : n ≤ 12) (hto : to < n) (hD : DST (A 0) n to dst) :
    ∀ r, 1 ≤ r → ∀ many most l, many + r = most + 1 → 1 ≤ many → most ≤ 12 → l < n → l ≠ to → ∀ (e : Nat) (hm : HM) (u F : Nat → Int32) (Q : QT), MO hm m u (va_up A 17 F) R → F (many - 1) = nI l →
      (r < dst l → (∀ hm' F', MO hm' m u (va_up A 17 F') R → (∀ i, i < many → F' i = F i) → sm m (m + 16) hm hm' → Q (some (.int 0)) hm' hs) → CC X EV (e + r + 1) 193 [.ref m, .int (nI many), .int (nI to), .int (nI most)] hm hs Q) ∧
      (dst l = r → (∀ i, i < many → ∃ t, t < n ∧ F i = nI t ∧ (t = to ∨ r ≤ dst t)) → (∀ hm' F', MO hm' m u (va_up A 17 F') R → (∀ i, i < many → F' i = F i) → (∀ i, many ≤ i → i < most → ∃ p, p < n ∧ F' (i - 1) = nI p ∧ nxR (A 0) n dst p (most - i) < n ∧ F' i = nI (nxR (A 0) n dst p (most - i))) → sm m (m + 16) hm hm' → Q (some (.int 1)) hm' hs) → CC X EV (e + r + 1) 193 [.ref m, .int (nI many), .int (nI to), .int (nI most)] hm hs Q) := by
  obtain ⟨hD1, hD2, hD3, hD4, hD5⟩ := hD
  have hc : ∀ r, 1 ≤ r → ∀ many most l, many + r = most + 1 → 1 ≤ many → most ≤ 12 → ∀ (e : Nat) (hm : HM) (u F : Nat → Int32) (Q : QT), MO hm m u (va_up A 17 F) R → F (many - 1) = nI l → l < n →
      E1 X EV (e + r) 10 0 0 (some .boolean) false cX10_leads Q 10 [.ref m, .int (nI many), .int (nI to), .int (nI most), .int (nI l), .null, .null, .null] [] 0 0 hm hs → CC X EV (e + r + 1) 193 [.ref m, .int (nI many), .int (nI to), .int (nI most)] hm hs Q := by
    intro r hr many most l h1 h2 h3 e hm u F Q hM hl hln hh
    have e17 : (va_up A 17 F) 17 = F := vu_eq _ _ _
    have es : nI many - 1 = nI (many - 1) := by rw [show (1 : Int32) = nI 1 from rfl, nI_sub h2]
    refine c_of (ls2 := [.ref m, .int (nI many), .int (nI to), .int (nI most), .null, .null, .null, .null]) Y193 (Nat.le_of_ble_eq_true rfl) rfl I193 ?_
    simp only [r_al0 dX10_leads_0, r_getf dX10_leads_1 F10_39, r_il1 dX10_leads_4, r_iconst dX10_leads_5 ki1, r_isub dX10_leads_6, r_iald dX10_leads_7, r_is4 dX10_leads_8, List.cons_append, List.nil_append, Nat.reduceAdd, Option.toList, aI_ok, cat_f, cat_i, cat_n, cat_r, eq_self, g10_17, true_and, z0, hM.r, rd_own hM.r, hM.r17, rd_own hM.r17, e17, es, nI_clamp (show many - 1 < 2 ^ 31 by omega), hl]
    exact ⟨vp_in_nI (by omega) (by omega), hh⟩
  intro r
  induction r with
  | zero => intro h; omega
  | succ r ih =>
    intro hr many most l h1 h2 h3 hl hlt e hm u F Q hM hF
    have hin := vp_in_nI (show 195 + l < 217 by omega) (by omega)
    have e0 : ∀ F', (va_up A 17 F') 0 = A 0 := fun F' => rfl
    by_cases hr0 : r = 0
    · subst hr0
      have hmm : many = most := by omega
      subst hmm
      refine ⟨fun hd hQ => ?_, fun hd hp hQ => ?_⟩
      · refine hc 1 (by omega) many many l h1 h2 h3 e hm u F Q hM hF hl ?_
        simp only [r_il1 dX10_leads_10, r_il3 dX10_leads_11, r_ic_ne (tgt := 31) dX10_leads_12 rfl, r_al0 dX10_leads_15, r_getf dX10_leads_16 F10_13, r_sipush dX10_leads_19 ks195, r_il4 dX10_leads_22, r_iadd dX10_leads_24, r_iald dX10_leads_25, r_il2 dX10_leads_26, r_iconst dX10_leads_31 ki0, r_is5 dX10_leads_32, List.cons_append, List.nil_append, Nat.reduceAdd, Option.toList, aI_ok, cat_f, cat_i, cat_n, cat_r, eq_self, g10_0, true_and, z0, hM.r, rd_own hM.r, hM.r0, rd_own hM.r0, e0, s195, nI_clamp (show 195 + l < 2 ^ 31 by omega), if_true, if_false]
        refine ⟨fun q => absurd trivial q, fun _ => ⟨hin, ?_⟩⟩
        refine r_ist2 dX10_leads_27 M10_178 Y156 (Nat.le_of_ble_eq_true rfl) (Nat.le_refl _) (Nat.le_refl _) ?_
        refine m_has (by omega) ?_
        rw [if_neg (fun q => by have := (hD1 l hl hlt).mp q; omega)]
        simp only [r_zret0 dX10_leads_30 (Nat.zero_le _) (Nat.zero_le _), r_zret1 dX10_leads_30 (Nat.zero_le _) (Nat.zero_le _), r_zretc dX10_leads_30 (Nat.zero_le _) (Nat.zero_le _), List.cons_append, List.nil_append, Nat.reduceAdd, Option.toList, z0]
        exact hQ hm F hM (fun _ _ => rfl) sm.rf
      · refine hc 1 (by omega) many many l h1 h2 h3 e hm u F Q hM hF hl ?_
        simp only [r_il1 dX10_leads_10, r_il3 dX10_leads_11, r_ic_ne (tgt := 31) dX10_leads_12 rfl, r_al0 dX10_leads_15, r_getf dX10_leads_16 F10_13, r_sipush dX10_leads_19 ks195, r_il4 dX10_leads_22, r_iadd dX10_leads_24, r_iald dX10_leads_25, r_il2 dX10_leads_26, r_iconst dX10_leads_31 ki0, r_is5 dX10_leads_32, List.cons_append, List.nil_append, Nat.reduceAdd, Option.toList, aI_ok, cat_f, cat_i, cat_n, cat_r, eq_self, g10_0, true_and, z0, hM.r, rd_own hM.r, hM.r0, rd_own hM.r0, e0, s195, nI_clamp (show 195 + l < 2 ^ 31 by omega), if_true, if_false]
        refine ⟨fun q => absurd trivial q, fun _ => ⟨hin, ?_⟩⟩
        refine r_ist2 dX10_leads_27 M10_178 Y156 (Nat.le_of_ble_eq_true rfl) (Nat.le_refl _) (Nat.le_refl _) ?_
        refine m_has (by omega) ?_
        rw [if_pos ((hD1 l hl hlt).mpr hd)]
        simp only [r_zret0 dX10_leads_30 (Nat.zero_le _) (Nat.zero_le _), r_zret1 dX10_leads_30 (Nat.zero_le _) (Nat.zero_le _), r_zretc dX10_leads_30 (Nat.zero_le _) (Nat.zero_le _), List.cons_append, List.nil_append, Nat.reduceAdd, Option.toList, z0]
        exact hQ hm F hM (fun _ _ => rfl) (fun i a b => absurd a (by omega)) sm.rf
    · have hr1 : 1 ≤ r := by omega
      have hmm : many < most := by omega
      have loop : ∀ lim, lim ≤ n → (∀ k, k < lim → bt (A 0 (195 + l)) k = true → k ≠ to → r < dst k) →
          (∀ hm' F' y6 y7, MO hm' m u (va_up A 17 F') R → (∀ i, i < many → F' i = F i) → sm m (m + 16) hm hm' → E1 X EV (e + r + 1) 10 0 0 (some .boolean) false cX10_leads Q 34 [.ref m, .int (nI many), .int (nI to), .int (nI most), .int (nI l), .int (nI lim), y6, y7] [] 0 0 hm' hs) →
          CC X EV (e + (r + 1) + 1) 193 [.ref m, .int (nI many), .int (nI to), .int (nI most)] hm hs Q := by
        intro lim hlim hfar hend
        refine hc (r + 1) (by omega) many most l h1 h2 h3 e hm u F Q hM hF hl ?_
        simp only [r_il1 dX10_leads_10, r_il3 dX10_leads_11, r_ic_ne (tgt := 31) dX10_leads_12 rfl, r_al0 dX10_leads_15, r_getf dX10_leads_16 F10_13, r_sipush dX10_leads_19 ks195, r_il4 dX10_leads_22, r_iadd dX10_leads_24, r_iald dX10_leads_25, r_il2 dX10_leads_26, r_iconst dX10_leads_31 ki0, r_is5 dX10_leads_32, List.cons_append, List.nil_append, Nat.reduceAdd, Option.toList, aI_ok, cat_f, cat_i, cat_n, cat_r, eq_self, g10_0, true_and, z0, nI_eq (show many < 2 ^ 31 by omega) (show most < 2 ^ 31 by omega)]
        refine ⟨fun _ => ?_, fun q => absurd (Classical.not_not.mp q) (by omega)⟩
        suffices H : ∀ k, k ≤ lim → ∀ hm' F' y6 y7, MO hm' m u (va_up A 17 F') R → (∀ i, i < many → F' i = F i) → sm m (m + 16) hm hm' → E1 X EV (e + r + 1) 10 0 0 (some .boolean) false cX10_leads Q 34 [.ref m, .int (nI many), .int (nI to), .int (nI most), .int (nI l), .int (nI k), y6, y7] [] 0 0 hm' hs from H 0 (by omega) hm F _ _ hM (fun _ _ => rfl) sm.rf
        refine up_loop lim _ (fun hm' F' y6 y7 a b c => hend hm' F' y6 y7 a b c) ?_
        intro k hk ihk hm' F' y6 y7 hM' hp' s'
        have e2 : (va_up A 17 F') 0 2 = nI n := hn
        have e17 : (va_up A 17 F') 17 = F' := vu_eq _ _ _
        have k146 : ∀ hm2 F2 y6 y7, MO hm2 m u (va_up A 17 F2) R → (∀ i, i < many → F2 i = F i) → sm m (m + 16) hm hm2 → E1 X EV (e + r + 1) 10 0 0 (some .boolean) false cX10_leads Q 146 [.ref m, .int (nI many), .int (nI to), .int (nI most), .int (nI l), .int (nI k), y6, y7] [] 0 0 hm2 hs := by
          intro hm2 F2 y6 y7 hM2 hp2 s2
          have := ihk hm2 F2 y6 y7 hM2 hp2 s2
          simp only [r_ii5 dX10_leads_146 kn1, r_gotoB (tgt := 34) dX10_leads_149 rfl, List.cons_append, List.nil_append, Nat.reduceAdd, Option.toList, cat_f, cat_i, cat_n, cat_r, eq_self, true_and, z0]
          try simp (disch := omega) only [E2, nI_1, nI_add, nI_leI, nI_ltI, nI_eq, nI_clamp]
          exact this
        have bad : ∀ i, E1 X EV (e + r + 1) 10 0 0 (some .boolean) false cX10_leads Q 80 [.ref m, .int (nI many), .int (nI to), .int (nI most), .int (nI l), .int (nI k), .int 0, .int (nI i)] [] 0 0 hm' hs := by
          intro i
          have := k146 hm' F' (.int 0) (.int (nI i)) hM' hp' s'
          have h116 : E1 X EV (e + r + 1) 10 0 0 (some .boolean) false cX10_leads Q 116 [.ref m, .int (nI many), .int (nI to), .int (nI most), .int (nI l), .int (nI k), .int 0, .int (nI i)] [] 0 0 hm' hs := by
            simp (disch := first | omega | (simp only [List.length_cons, List.length_nil]; omega)) only [r_il6 dX10_leads_116, r_if_ne (tgt := 124) dX10_leads_118 rfl, r_gotoB (tgt := 146) dX10_leads_121 rfl, r_al0 dX10_leads_124, r_getf dX10_leads_125 F10_39, r_il1 dX10_leads_128, r_il5 dX10_leads_129, r_iast dX10_leads_131, r_al0 dX10_leads_132, r_il1 dX10_leads_133, r_iconst dX10_leads_134 ki1, r_iadd dX10_leads_135, r_il2 dX10_leads_136, r_il3 dX10_leads_137, List.cons_append, List.nil_append, Nat.reduceAdd, Option.toList, g10_17, pk_un, pk_us, rd_up_eq, rd_up_ne, sI_ok, up_eq, up_ne, up_up, z0]
            refine ⟨fun q => absurd trivial q, fun _ => ?_⟩
            try simp (disch := omega) only [E2, nI_1, nI_add, nI_leI, nI_ltI, nI_eq, nI_clamp]
            exact this
          simp only [r_il7 dX10_leads_80, r_il1 dX10_leads_82, r_ic_geB (tgt := 116) dX10_leads_83 rfl, r_il6 dX10_leads_86, r_if_eqB (tgt := 116) dX10_leads_88 rfl, r_al0 dX10_leads_91, r_getf dX10_leads_92 F10_39, r_il7 dX10_leads_95, r_iald dX10_leads_97, r_il5 dX10_leads_98, r_ic_eq (tgt := 107) dX10_leads_100 rfl, r_iconst dX10_leads_103 ki1, r_goto (tgt := 108) dX10_leads_104 rfl, r_iconst dX10_leads_107 ki0, r_is6 dX10_leads_108, r_ii7 dX10_leads_110 kn1, r_gotoB (tgt := 80) dX10_leads_113 rfl, List.cons_append, List.nil_append, Nat.reduceAdd, Option.toList, aI_ok, cat_f, cat_i, cat_n, cat_r, eq_self, g10_17, true_and, z0]
          refine ⟨fun _ => ?_, fun _ => ⟨fun _ => ?_, fun q => absurd trivial q⟩⟩
          · try simp (disch := omega) only [E2, nI_1, nI_add, nI_leI, nI_ltI, nI_eq, nI_clamp]
            exact h116
          · try simp (disch := omega) only [E2, nI_1, nI_add, nI_leI, nI_ltI, nI_eq, nI_clamp]
            exact h116
        simp only [r_il5 dX10_leads_34, r_al0 dX10_leads_36, r_getf dX10_leads_37 F10_13, r_iconst dX10_leads_40 ki2, r_iald dX10_leads_41, r_ic_ge (tgt := 152) dX10_leads_42 rfl, r_al0 dX10_leads_45, r_getf dX10_leads_46 F10_13, r_sipush dX10_leads_49 ks195, r_il4 dX10_leads_52, r_iadd dX10_leads_54, r_iald dX10_leads_55, r_il5 dX10_leads_56, r_iconst dX10_leads_152 ki0, r_zret0 dX10_leads_153 (Nat.zero_le _) (Nat.zero_le _), r_zret1 dX10_leads_153 (Nat.zero_le _) (Nat.zero_le _), r_zretc dX10_leads_153 (Nat.zero_le _) (Nat.zero_le _), List.cons_append, List.nil_append, Nat.reduceAdd, Option.toList, aI_ok, g10_0, z0, hM'.r, rd_own hM'.r, hM'.r0, rd_own hM'.r0, vs2, ck2, e2, e0, hn, true_and, s195, nI_clamp (show 195 + l < 2 ^ 31 by omega)]
        refine ⟨fun q => absurd ((nI_leI (by omega) (by omega)).mp q) (by omega), fun _ => ⟨hin, ?_⟩⟩
        refine r_ist2 dX10_leads_58 M10_178 Y156 (Nat.le_of_ble_eq_true rfl) (Nat.le_refl _) (Nat.le_refl _) ?_
        refine m_has (by omega) ?_
        simp only [r_if_eq (tgt := 74) dX10_leads_61 rfl, r_il5 dX10_leads_64, r_il2 dX10_leads_66, r_ic_eq (tgt := 74) dX10_leads_67 rfl, r_iconst dX10_leads_70 ki1, r_goto (tgt := 75) dX10_leads_71 rfl, r_iconst dX10_leads_74 ki0, r_is6 dX10_leads_75, r_iconst dX10_leads_77 ki0, r_is7 dX10_leads_78, List.cons_append, List.nil_append, Nat.reduceAdd, Option.toList, cat_f, cat_i, cat_n, cat_r, eq_self, true_and, z0]
        refine ⟨fun _ => bad 0, fun hb => ⟨fun _ => bad 0, fun hkt => ?_⟩⟩
        have hb := Classical.not_not.mp hb
        have hkt : k ≠ to := fun e => hkt (congrArg nI e)
        have hdk := hfar k hk hb hkt
        have k124 : E1 X EV (e + r + 1) 10 0 0 (some .boolean) false cX10_leads Q 124 [.ref m, .int (nI many), .int (nI to), .int (nI most), .int (nI l), .int (nI k), .int 1, .int (nI many)] [] 0 0 hm' hs := by
          have hM3 := hM'.w17 (upd F' many (nI k))
          rw [va_va] at hM3
          simp (disch := first | omega | (simp only [List.length_cons, List.length_nil]; omega)) only [r_al0 dX10_leads_124, r_getf dX10_leads_125 F10_39, r_il1 dX10_leads_128, r_il5 dX10_leads_129, r_iast dX10_leads_131, r_al0 dX10_leads_132, r_il1 dX10_leads_133, r_iconst dX10_leads_134 ki1, r_iadd dX10_leads_135, r_il2 dX10_leads_136, r_il3 dX10_leads_137, List.cons_append, List.nil_append, Nat.reduceAdd, Option.toList, g10_17, pk_un, pk_us, rd_up_eq, rd_up_ne, sI_ok, up_eq, up_ne, up_up, z0, hM'.r, rd_own hM'.r, hM'.r17, rd_own hM'.r17, e17, nI_clamp (show many < 2 ^ 31 by omega), nI_1]
          refine ⟨vp_in_nI (by omega) (by omega), ?_⟩
          have s3 := s'.up (a := m + 8) (c := ia 12 (upd F' many (nI k))) (by omega)
          refine r_iv4 dX10_leads_138 M10_215 Y193 O193 (Nat.le_of_ble_eq_true rfl) (rcv_own hM3.r) (Nat.le_refl _) (Nat.le_refl _) ?_
          have hrec := (ih hr1 (many + 1) most k (by omega) (by omega) h3 (by omega) hkt e _ u (upd F' many (nI k)) (fun r' hm2 hs2 => E1 X EV (e + r + 1) 10 0 0 (some .boolean) false cX10_leads Q (138 + 3) [.ref m, .int (nI many), .int (nI to), .int (nI most), .int (nI l), .int (nI k), .int 1, .int (nI many)] (r'.toList ++ []) (0 + 0) (0 + 0) hm2 hs2) hM3 (by rw [show many + 1 - 1 = many by omega, pk_us])).1 hdk
          refine hrec (fun hm4 F4 hM4 hp4 s4 => ?_)
          have := k146 hm4 F4 (.int 1) (.int (nI many)) hM4 (fun i hi => by rw [hp4 i (by omega), pk_un (by omega)]; exact hp' i hi) (s3.trans s4)
          simp only [r_if_eqB (tgt := 146) dX10_leads_141 rfl, r_iconst dX10_leads_144 ki1, r_zret0 dX10_leads_145 (Nat.zero_le _) (Nat.zero_le _), r_zret1 dX10_leads_145 (Nat.zero_le _) (Nat.zero_le _), r_zretc dX10_leads_145 (Nat.zero_le _) (Nat.zero_le _), List.cons_append, List.nil_append, Nat.reduceAdd, Option.toList, z0]
          refine ⟨fun _ => ?_, fun q => absurd trivial q⟩
          try simp (disch := omega) only [E2, nI_1, nI_add, nI_leI, nI_ltI, nI_eq, nI_clamp]
          exact this
        suffices H : ∀ i, i ≤ many → (∀ j, j < i → F' j ≠ nI k) → E1 X EV (e + r + 1) 10 0 0 (some .boolean) false cX10_leads Q 80 [.ref m, .int (nI many), .int (nI to), .int (nI most), .int (nI l), .int (nI k), .int 1, .int (nI i)] [] 0 0 hm' hs from H 0 (by omega) (fun j hj => absurd hj (Nat.not_lt_zero j))
        refine up_loop many _ ?_ ?_
        · intro _
          simp only [r_il7 dX10_leads_80, r_il1 dX10_leads_82, r_ic_geB (tgt := 116) dX10_leads_83 rfl, r_il6 dX10_leads_86, r_if_eqB (tgt := 116) dX10_leads_88 rfl, r_al0 dX10_leads_91, r_getf dX10_leads_92 F10_39, r_il7 dX10_leads_95, r_iald dX10_leads_97, r_il5 dX10_leads_98, r_ic_eq (tgt := 107) dX10_leads_100 rfl, r_iconst dX10_leads_103 ki1, r_goto (tgt := 108) dX10_leads_104 rfl, r_iconst dX10_leads_107 ki0, r_is6 dX10_leads_108, r_ii7 dX10_leads_110 kn1, r_gotoB (tgt := 80) dX10_leads_113 rfl, List.cons_append, List.nil_append, Nat.reduceAdd, Option.toList, aI_ok, cat_f, cat_i, cat_n, cat_r, eq_self, g10_17, true_and, z0]
          refine ⟨fun _ => ?_, fun q => absurd (Int32.le_refl _) q⟩
          try simp (disch := omega) only [E2, nI_1, nI_add, nI_leI, nI_ltI, nI_eq, nI_clamp]
          simp only [r_il6 dX10_leads_116, r_if_neB (tgt := 124) dX10_leads_118 rfl, r_gotoB (tgt := 146) dX10_leads_121 rfl, List.cons_append, List.nil_append, Nat.reduceAdd, Option.toList, z0]
          refine ⟨fun _ => ?_, fun q => absurd (Classical.not_not.mp q) (by decide)⟩
          try simp (disch := omega) only [E2, nI_1, nI_add, nI_leI, nI_ltI, nI_eq, nI_clamp]
          exact k124
        · intro i hi ihi hno
          simp only [r_il7 dX10_leads_80, r_il1 dX10_leads_82, r_ic_geB (tgt := 116) dX10_leads_83 rfl, r_il6 dX10_leads_86, r_if_eqB (tgt := 116) dX10_leads_88 rfl, r_al0 dX10_leads_91, r_getf dX10_leads_92 F10_39, r_il7 dX10_leads_95, r_iald dX10_leads_97, r_il5 dX10_leads_98, r_ic_eq (tgt := 107) dX10_leads_100 rfl, r_iconst dX10_leads_103 ki1, r_goto (tgt := 108) dX10_leads_104 rfl, r_iconst dX10_leads_107 ki0, r_is6 dX10_leads_108, r_ii7 dX10_leads_110 kn1, r_gotoB (tgt := 80) dX10_leads_113 rfl, List.cons_append, List.nil_append, Nat.reduceAdd, Option.toList, aI_ok, cat_f, cat_i, cat_n, cat_r, eq_self, g10_17, true_and, z0, hM'.r, rd_own hM'.r, hM'.r17, rd_own hM'.r17, e17, nI_clamp (show i < 2 ^ 31 by omega)]
          refine ⟨fun q => absurd ((nI_leI (by omega) (by omega)).mp q) (by omega), fun _ => ⟨fun q => absurd q (by decide), fun _ => ⟨vp_in_nI (by omega) (by omega), fun q => ?_, fun q => ?_⟩⟩⟩
          · try simp (disch := omega) only [E2, nI_1, nI_add, nI_leI, nI_ltI, nI_eq, nI_clamp]
            exact bad (i + 1)
          · try simp (disch := omega) only [E2, nI_1, nI_add, nI_leI, nI_ltI, nI_eq, nI_clamp]
            exact ihi (fun j hj => by
              rcases Nat.lt_or_ge j i with h' | h'
              · exact hno j h'
              · rw [show j = i by omega]; exact q)
      refine ⟨fun hd hQ => ?_, fun hd hp hQ => ?_⟩
      · refine loop n (Nat.le_refl n) (fun k hk hb hkt => by have := hD2 l k hl hk hlt hkt hb; omega) (fun hm' F' y6 y7 hM' hp' s' => ?_)
        have e2 : (va_up A 17 F') 0 2 = nI n := hn
        simp only [r_il5 dX10_leads_34, r_al0 dX10_leads_36, r_getf dX10_leads_37 F10_13, r_iconst dX10_leads_40 ki2, r_iald dX10_leads_41, r_ic_ge (tgt := 152) dX10_leads_42 rfl, r_al0 dX10_leads_45, r_getf dX10_leads_46 F10_13, r_sipush dX10_leads_49 ks195, r_il4 dX10_leads_52, r_iadd dX10_leads_54, r_iald dX10_leads_55, r_il5 dX10_leads_56, r_iconst dX10_leads_152 ki0, r_zret0 dX10_leads_153 (Nat.zero_le _) (Nat.zero_le _), r_zret1 dX10_leads_153 (Nat.zero_le _) (Nat.zero_le _), r_zretc dX10_leads_153 (Nat.zero_le _) (Nat.zero_le _), List.cons_append, List.nil_append, Nat.reduceAdd, Option.toList, aI_ok, g10_0, z0, hM'.r, rd_own hM'.r, hM'.r0, rd_own hM'.r0, vs2, ck2, e2, true_and]
        exact ⟨fun _ => hQ hm' F' hM' hp' s', fun q => absurd (Int32.le_refl _) q⟩
      · obtain ⟨j0, hj0, hbj, hdj⟩ := hD3 l r hl hlt hr1 (by omega) hd
        have hz : nxR (A 0) n dst l r < n := by
          unfold nxR
          refine Nat.lt_of_not_le fun hge => ?_
          exact fstN_min (P := fun k => bt (A 0 (195 + l)) k = true ∧ dst k = r) (show j0 < fstN (fun k => bt (A 0 (195 + l)) k = true ∧ dst k = r) n by omega) ⟨hbj, hdj⟩
        have hzp : bt (A 0 (195 + l)) (nxR (A 0) n dst l r) = true ∧ dst (nxR (A 0) n dst l r) = r := fstN_lt (P := fun k => bt (A 0 (195 + l)) k = true ∧ dst k = r) hz
        have hzm : ∀ k, k < nxR (A 0) n dst l r → ¬ (bt (A 0 (195 + l)) k = true ∧ dst k = r) := fun k hk => fstN_min (P := fun k => bt (A 0 (195 + l)) k = true ∧ dst k = r) hk
        obtain ⟨z, ez⟩ : ∃ z, z = nxR (A 0) n dst l r := ⟨_, rfl⟩
        rw [← ez] at hz hzp hzm
        have hzt : z ≠ to := fun e => by rw [e, hD4] at hzp; omega
        refine loop z (by omega) (fun k hk hb hkt => by
          have h5 := hD2 l k hl (by omega) hlt hkt hb
          have h6 : dst k ≠ r := fun q => hzm k hk ⟨hb, q⟩
          omega) (fun hm' F' y6 y7 hM' hp' s' => ?_)
        have e2 : (va_up A 17 F') 0 2 = nI n := hn
        have e17 : (va_up A 17 F') 17 = F' := vu_eq _ _ _
        simp only [r_il5 dX10_leads_34, r_al0 dX10_leads_36, r_getf dX10_leads_37 F10_13, r_iconst dX10_leads_40 ki2, r_iald dX10_leads_41, r_ic_ge (tgt := 152) dX10_leads_42 rfl, r_al0 dX10_leads_45, r_getf dX10_leads_46 F10_13, r_sipush dX10_leads_49 ks195, r_il4 dX10_leads_52, r_iadd dX10_leads_54, r_iald dX10_leads_55, r_il5 dX10_leads_56, r_iconst dX10_leads_152 ki0, r_zret0 dX10_leads_153 (Nat.zero_le _) (Nat.zero_le _), r_zret1 dX10_leads_153 (Nat.zero_le _) (Nat.zero_le _), r_zretc dX10_leads_153 (Nat.zero_le _) (Nat.zero_le _), List.cons_append, List.nil_append, Nat.reduceAdd, Option.toList, aI_ok, g10_0, z0, hM'.r, rd_own hM'.r, hM'.r0, rd_own hM'.r0, vs2, ck2, e2, e0, hn, true_and, s195, nI_clamp (show 195 + l < 2 ^ 31 by omega)]
        refine ⟨fun q => absurd ((nI_leI (by omega) (by omega)).mp q) (by omega), fun _ => ⟨hin, ?_⟩⟩
        refine r_ist2 dX10_leads_58 M10_178 Y156 (Nat.le_of_ble_eq_true rfl) (Nat.le_refl _) (Nat.le_refl _) ?_
        refine m_has (by omega) ?_
        rw [if_pos hzp.1]
        simp only [r_if_eq (tgt := 74) dX10_leads_61 rfl, r_il5 dX10_leads_64, r_il2 dX10_leads_66, r_ic_eq (tgt := 74) dX10_leads_67 rfl, r_iconst dX10_leads_70 ki1, r_goto (tgt := 75) dX10_leads_71 rfl, r_iconst dX10_leads_74 ki0, r_is6 dX10_leads_75, r_iconst dX10_leads_77 ki0, r_is7 dX10_leads_78, List.cons_append, List.nil_append, Nat.reduceAdd, Option.toList, cat_f, cat_i, cat_n, cat_r, eq_self, true_and, z0]
        refine ⟨fun q => absurd q (by decide), fun _ => ⟨fun q => absurd ((nI_eq (by omega) (by omega)).mp q) hzt, fun _ => ?_⟩⟩
        have hne : ∀ j, j < many → F' j ≠ nI z := by
          intro j hj e1
          obtain ⟨t, ht, et, h5⟩ := hp j hj
          rw [hp' j hj, et, nI_eq (by omega) (by omega)] at e1
          rw [e1] at h5
          rcases h5 with h5 | h5
          · exact hzt h5
          · omega
        have k124 : E1 X EV (e + r + 1) 10 0 0 (some .boolean) false cX10_leads Q 124 [.ref m, .int (nI many), .int (nI to), .int (nI most), .int (nI l), .int (nI z), .int 1, .int (nI many)] [] 0 0 hm' hs := by
          have hM3 := hM'.w17 (upd F' many (nI z))
          rw [va_va] at hM3
          simp (disch := first | omega | (simp only [List.length_cons, List.length_nil]; omega)) only [r_al0 dX10_leads_124, r_getf dX10_leads_125 F10_39, r_il1 dX10_leads_128, r_il5 dX10_leads_129, r_iast dX10_leads_131, r_al0 dX10_leads_132, r_il1 dX10_leads_133, r_iconst dX10_leads_134 ki1, r_iadd dX10_leads_135, r_il2 dX10_leads_136, r_il3 dX10_leads_137, List.cons_append, List.nil_append, Nat.reduceAdd, Option.toList, g10_17, pk_un, pk_us, rd_up_eq, rd_up_ne, sI_ok, up_eq, up_ne, up_up, z0, hM'.r, rd_own hM'.r, hM'.r17, rd_own hM'.r17, e17, nI_clamp (show many < 2 ^ 31 by omega), nI_1]
          refine ⟨vp_in_nI (by omega) (by omega), ?_⟩
          have s3 := s'.up (a := m + 8) (c := ia 12 (upd F' many (nI z))) (by omega)
          refine r_iv4 dX10_leads_138 M10_215 Y193 O193 (Nat.le_of_ble_eq_true rfl) (rcv_own hM3.r) (Nat.le_refl _) (Nat.le_refl _) ?_
          have hrec := (ih hr1 (many + 1) most z (by omega) (by omega) h3 hz hzt e _ u (upd F' many (nI z)) (fun r' hm2 hs2 => E1 X EV (e + r + 1) 10 0 0 (some .boolean) false cX10_leads Q (138 + 3) [.ref m, .int (nI many), .int (nI to), .int (nI most), .int (nI l), .int (nI z), .int 1, .int (nI many)] (r'.toList ++ []) (0 + 0) (0 + 0) hm2 hs2) hM3 (by rw [show many + 1 - 1 = many by omega, pk_us])).2 hzp.2
          refine hrec (fun i hi => ?_) (fun hm4 F4 hM4 hp4 hq4 s4 => ?_)
          · by_cases ei : i = many
            · rw [ei, pk_us]; exact ⟨z, hz, rfl, .inr (by omega)⟩
            · rw [pk_un ei, hp' i (by omega)]
              obtain ⟨t, ht, et, h5⟩ := hp i (by omega)
              exact ⟨t, ht, et, by rcases h5 with h5 | h5; exact .inl h5; exact .inr (by omega)⟩
          · have hp5 : ∀ i, i < many → F4 i = F i := fun i hi => by rw [hp4 i (by omega), pk_un (by omega)]; exact hp' i hi
            have := hQ hm4 F4 hM4 hp5 (fun i hi1 hi2 => ?_) ((s3.trans s4))
            · simp only [r_if_eqB (tgt := 146) dX10_leads_141 rfl, r_iconst dX10_leads_144 ki1, r_zret0 dX10_leads_145 (Nat.zero_le _) (Nat.zero_le _), r_zret1 dX10_leads_145 (Nat.zero_le _) (Nat.zero_le _), r_zretc dX10_leads_145 (Nat.zero_le _) (Nat.zero_le _), List.cons_append, List.nil_append, Nat.reduceAdd, Option.toList, z0]
              exact ⟨fun q => absurd q (by decide), fun _ => this⟩
            · by_cases ei : i = many
              · subst ei
                refine ⟨l, hl, by rw [hp5 _ (by omega)]; exact hF, ?_, ?_⟩
                · rw [show most - i = r by omega, ← ez]; exact hz
                · rw [hp4 i (by omega), pk_us, show most - i = r by omega, ← ez]
              · exact hq4 i (by omega) hi2
        suffices H : ∀ i, i ≤ many → E1 X EV (e + r + 1) 10 0 0 (some .boolean) false cX10_leads Q 80 [.ref m, .int (nI many), .int (nI to), .int (nI most), .int (nI l), .int (nI z), .int 1, .int (nI i)] [] 0 0 hm' hs from H 0 (by omega)
        refine up_loop many _ ?_ ?_
        · skip
          simp only [r_il7 dX10_leads_80, r_il1 dX10_leads_82, r_ic_geB (tgt := 116) dX10_leads_83 rfl, r_il6 dX10_leads_86, r_if_eqB (tgt := 116) dX10_leads_88 rfl, r_al0 dX10_leads_91, r_getf dX10_leads_92 F10_39, r_il7 dX10_leads_95, r_iald dX10_leads_97, r_il5 dX10_leads_98, r_ic_eq (tgt := 107) dX10_leads_100 rfl, r_iconst dX10_leads_103 ki1, r_goto (tgt := 108) dX10_leads_104 rfl, r_iconst dX10_leads_107 ki0, r_is6 dX10_leads_108, r_ii7 dX10_leads_110 kn1, r_gotoB (tgt := 80) dX10_leads_113 rfl, List.cons_append, List.nil_append, Nat.reduceAdd, Option.toList, aI_ok, cat_f, cat_i, cat_n, cat_r, eq_self, g10_17, true_and, z0]
          refine ⟨fun _ => ?_, fun q => absurd (Int32.le_refl _) q⟩
          try simp (disch := omega) only [E2, nI_1, nI_add, nI_leI, nI_ltI, nI_eq, nI_clamp]
          simp only [r_il6 dX10_leads_116, r_if_neB (tgt := 124) dX10_leads_118 rfl, r_gotoB (tgt := 146) dX10_leads_121 rfl, List.cons_append, List.nil_append, Nat.reduceAdd, Option.toList, z0]
          refine ⟨fun _ => ?_, fun q => absurd (Classical.not_not.mp q) (by decide)⟩
          try simp (disch := omega) only [E2, nI_1, nI_add, nI_leI, nI_ltI, nI_eq, nI_clamp]
          exact k124
        · intro i hi ihi
          simp only [r_il7 dX10_leads_80, r_il1 dX10_leads_82, r_ic_geB (tgt := 116) dX10_leads_83 rfl, r_il6 dX10_leads_86, r_if_eqB (tgt := 116) dX10_leads_88 rfl, r_al0 dX10_leads_91, r_getf dX10_leads_92 F10_39, r_il7 dX10_leads_95, r_iald dX10_leads_97, r_il5 dX10_leads_98, r_ic_eq (tgt := 107) dX10_leads_100 rfl, r_iconst dX10_leads_103 ki1, r_goto (tgt := 108) dX10_leads_104 rfl, r_iconst dX10_leads_107 ki0, r_is6 dX10_leads_108, r_ii7 dX10_leads_110 kn1, r_gotoB (tgt := 80) dX10_leads_113 rfl, List.cons_append, List.nil_append, Nat.reduceAdd, Option.toList, aI_ok, cat_f, cat_i, cat_n, cat_r, eq_self, g10_17, true_and, z0, hM'.r, rd_own hM'.r, hM'.r17, rd_own hM'.r17, e17, nI_clamp (show i < 2 ^ 31 by omega)]
          refine ⟨fun q => absurd ((nI_leI (by omega) (by omega)).mp q) (by omega), fun _ => ⟨fun q => absurd q (by decide), fun _ => ⟨vp_in_nI (by omega) (by omega), fun q => absurd q (hne i hi), fun q => ?_⟩⟩⟩
          try simp (disch := omega) only [E2, nI_1, nI_add, nI_leI, nI_ltI, nI_eq, nI_clamp]
          exact ihi
end M23
