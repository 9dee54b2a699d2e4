def RT (r : OU) (u u' : Nat → Int32) (A A' : Nat → Nat → Int32) : Prop := match r with
  | .inl (lm, S) => u' 9 = 0 ∧ u' 10 = u 10 ∧ u' 12 = nI lm ∧ A' 0 = S ∧ RK none u u' A A'
  | .inr (f, at', rg) => (1 ≤ f ∧ f ≤ 6) ∧ u' 9 = nI f ∧ u' 10 = nI at' ∧ RK rg u u' A A'
/-- what tell answers and leaves -/
def RE (r : OU) (u u' : Nat → Int32) (A A' : Nat → Nat → Int32) (v : Int32) : Prop := match r with
  | .inl (lm, S) => v = nI lm ∧ u' 3 = 0 ∧ u' 9 = 0 ∧ u' 10 = -1 ∧ A' 0 = S ∧ RK none u u' A A'
  | .inr (f, at', rg) => v = -30 - nI f ∧ u' 3 = u 3 ∧ u' 9 = nI f ∧ u' 10 = nI at' ∧ (∀ j, j < 217 → A' 0 j = A 0 j) ∧ RK rg u u' A A'
section MM
variable {X : HM} {EV : Nat → Value} {d : Nat} {hm : HM} {hs : Nat} {Q : QT} {B m n : Nat} {u : Nat → Int32} {A : Nat → Nat → Int32} {R : Nat → Int64} {e q z : Nat} {o : OU}
theorem RK.up {rg : OR} {u u1 u2 : Nat → Int32} {A A1 A2 : Nat → Nat → Int32} (a : RK none u u1 A A1) (b : RK rg u1 u2 A1 A2) : RK rg u u2 A A2 := by
  cases rg with
  | none => exact ⟨b.1.trans a.1, b.2.trans a.2⟩
  | some x => exact b
theorem m_tell {a : Int32} (hM : MO hm m u A R) (hB : BY (A 5) z) (hK : KY X EV B) (hlo : lowN B hm) (hBm : B ≤ m) (e6 : u 6 = nI z) (hz : z ≤ 900)
    (h0 : ¬ (0 ≤ a ∧ a ≤ nI z) → ∀ hm', MO hm' m (upd u 4 0) A R → sm m (m + 16) hm hm' → Q (some (.int (-3))) hm' hs)
    (h1 : ∀ e, e ≤ z → a = nI e → ∃ c r, TR (A 5) e c 0 0 (S0 (A 0)) r ∧ ∀ hm' u' A' v, MO hm' m u' A' R → sm m (m + 16) hm hm' → u' 6 = 0 → A' 2 = A 2 → A' 5 = A 5 → A' 24 = A 24 → A' 25 = A 25 → A' 26 = A 26 → RE r u u' A A' v → Q (some (.int v)) hm' hs) : CC X EV (d + 19) 180 [.ref m, .int a] hm hs Q := by
  have hM1 := hM.o (upd u 4 0)
  have s1 : sm m (m + 16) hm (im_up hm m (.inr (10, fs_MO m (upd u 4 0)))) := sm.rf.up (by omega)
  refine c_of (ls2 := [.ref m, .int a, .null]) Y180 (Nat.le_of_ble_eq_true rfl) rfl I180 ?_
  simp (disch := first | omega | (simp only [List.length_cons, List.length_nil]; omega)) only [r_al0 dX10_tell_0, r_iconst dX10_tell_1 ki0, r_putf dX10_tell_2 F10_1, r_il1 dX10_tell_5, r_i2l dX10_tell_6, r_lconst dX10_tell_7 kl0, r_al0 dX10_tell_8, r_getf dX10_tell_9 F10_67, r_i2l dX10_tell_12, List.cons_append, List.nil_append, Nat.reduceAdd, Option.toList, fit_i, ft10_4, g10_6, p10_4, pk_un, pk_us, rd_up_eq, rd_up_ne, true_and, up_eq, up_ne, up_up, z0, hM.r, rd_own hM.r, hM.r, rd_own hM.r]
  generalize im_up hm m (.inr (10, fs_MO m (upd u 4 0))) = hm1 at hM1 s1 ⊢
  simp only [r_il1 dX10_tell_5, r_i2l dX10_tell_6, r_lconst dX10_tell_7 kl0, r_al0 dX10_tell_8, r_getf dX10_tell_9 F10_67, r_i2l dX10_tell_12, List.cons_append, List.nil_append, Nat.reduceAdd, Option.toList, g10_6, z0, hM1.r, rd_own hM1.r, hM1.r, rd_own hM1.r, e6, l0_]
  refine r_ist3 dX10_tell_13 M10_83 Y155 (Nat.le_of_ble_eq_true rfl) (Nat.le_refl _) (Nat.le_refl _) ?_
  refine m_in ?_
  by_cases hin : 0 ≤ a ∧ a ≤ nI z
  case neg =>
    rw [if_neg hin]
    simp (disch := first | omega | (simp only [List.length_cons, List.length_nil]; omega)) only [r_if_ne (tgt := 22) dX10_tell_16 rfl, r_bipush dX10_tell_19 kbm3, r_iret dX10_tell_21 (Nat.zero_le _) (Nat.zero_le _), r_al0 dX10_tell_22, r_iconst dX10_tell_23 ki0, r_putf dX10_tell_24 F10_67, r_al0 dX10_tell_27, r_il1 dX10_tell_28, r_putf dX10_tell_29 F10_73, r_al0 dX10_tell_32, r_iconst dX10_tell_33 ki0, r_putf dX10_tell_34 F10_70, r_al0 dX10_tell_37, r_iconst dX10_tell_38 ki0, r_putf dX10_tell_39 F10_76, r_al0 dX10_tell_42, r_iconst dX10_tell_43 kim1, r_putf dX10_tell_44 F10_27, r_al0 dX10_tell_47, r_iconst dX10_tell_48 ki0, r_putf dX10_tell_49 F10_126, r_iconst dX10_tell_52 ki0, r_is2 dX10_tell_53, List.cons_append, List.nil_append, Nat.reduceAdd, Option.toList, cat_f, cat_i, cat_n, cat_r, eq_self, fit_i, ft10_10, ft10_12, ft10_6, ft10_7, ft10_8, ft10_9, p10_10, p10_12, p10_6, p10_7, p10_8, p10_9, pk_un, pk_us, rd_up_eq, rd_up_ne, true_and, up_eq, up_ne, up_up, z0]
    exact ⟨fun y => absurd trivial y, fun _ => h0 hin _ hM1 s1⟩
  rw [if_pos hin]
  obtain ⟨e, he, rfl⟩ := ixle (by omega) hin.1 hin.2
  obtain ⟨c, r, hT, h1⟩ := h1 e he rfl
  simp (disch := first | omega | (simp only [List.length_cons, List.length_nil]; omega)) only [r_if_ne (tgt := 22) dX10_tell_16 rfl, r_bipush dX10_tell_19 kbm3, r_iret dX10_tell_21 (Nat.zero_le _) (Nat.zero_le _), r_al0 dX10_tell_22, r_iconst dX10_tell_23 ki0, r_putf dX10_tell_24 F10_67, r_al0 dX10_tell_27, r_il1 dX10_tell_28, r_putf dX10_tell_29 F10_73, r_al0 dX10_tell_32, r_iconst dX10_tell_33 ki0, r_putf dX10_tell_34 F10_70, r_al0 dX10_tell_37, r_iconst dX10_tell_38 ki0, r_putf dX10_tell_39 F10_76, r_al0 dX10_tell_42, r_iconst dX10_tell_43 kim1, r_putf dX10_tell_44 F10_27, r_al0 dX10_tell_47, r_iconst dX10_tell_48 ki0, r_putf dX10_tell_49 F10_126, r_iconst dX10_tell_52 ki0, r_is2 dX10_tell_53, List.cons_append, List.nil_append, Nat.reduceAdd, Option.toList, cat_f, cat_i, cat_n, cat_r, eq_self, fit_i, ft10_10, ft10_12, ft10_6, ft10_7, ft10_8, ft10_9, p10_10, p10_12, p10_6, p10_7, p10_8, p10_9, pk_un, pk_us, rd_up_eq, rd_up_ne, true_and, up_eq, up_ne, up_up, z0, hM1.r, rd_own hM1.r, hM1.r, rd_own hM1.r]
  refine ⟨fun _ => ?_, fun y => absurd (by decide) y⟩
  have hM2 := hM1.o (upd (upd (upd (upd (upd (upd (upd u 4 0) 6 0) 7 (nI e)) 8 0) 9 0) 10 (-1)) 12 0)
  have s2 : sm m (m + 16) hm (im_up hm1 m (Sum.inr (10, fs_MO m (upd (upd (upd (upd (upd (upd (upd u 4 0) 6 0) 7 (nI e)) 8 0) 9 0) 10 (-1)) 12 0)))) := s1.up (by omega)
  obtain ⟨u2, eu2⟩ : ∃ u2, u2 = upd (upd (upd (upd (upd (upd (upd u 4 0) 6 0) 7 (nI e)) 8 0) 9 0) 10 (-1)) 12 0 := ⟨_, rfl⟩
  have g3 : u2 3 = u 3 := by rw [eu2]; rfl
  have g6 : u2 6 = 0 := by rw [eu2]; rfl
  have g7 : u2 7 = nI e := by rw [eu2]; rfl
  have g8 : u2 8 = nI 0 := by rw [eu2]; rfl
  have g9 : u2 9 = 0 := by rw [eu2]; rfl
  have g10 : u2 10 = -1 := by rw [eu2]; rfl
  have g12 : u2 12 = nI 0 := by rw [eu2]; rfl
  have g18 : u2 18 = u 18 := by rw [eu2]; rfl
  rw [← eu2] at hM2 s2 ⊢
  generalize im_up hm1 m (Sum.inr (10, fs_MO m u2)) = hm2 at hM2 s2 ⊢
  clear eu2
  have i217 : (217 : Int32) = nI 217 := rfl
  have eV0 : ∀ S, (va_up A 1 S) 0 = A 0 := fun S => rfl
  have eV1 : ∀ S, (va_up A 1 S) 1 = S := fun S => rfl
  have hBe : BY (A 5) e := fun i hi => hB i (by omega)
  have he9 : e ≤ 900 := by omega
  have h79 : ∀ hm' S1, MO hm' m u2 (va_up A 1 S1) R → (∀ j, j < 217 → S1 j = A 0 j) → sm m (m + 16) hm hm' → ∀ y, E1 X EV (d + 18) 10 0 0 (some .int) false cX10_tell Q 79 [.ref m, .int (nI e), y] [] 0 0 hm' hs := by
    intro hm' S1 hM' hS1 s' y
    simp only [r_al0 dX10_tell_79, List.cons_append, List.nil_append, Nat.reduceAdd, Option.toList, z0]
    refine r_iv1 dX10_tell_80 M10_64 Y158 O158 (Nat.le_of_ble_eq_true rfl) (rcv_own hM'.r) (Nat.le_refl _) (Nat.le_refl _) ?_
    refine m_plain hM' (fun hm3 S' hM3 hS' s3 => ?_)
    have s3 := s'.trans s3
    obtain rfl : S' = S0 (A 0) := funext hS'
    have hr105 : ∀ hm' u' A', MO hm' m u' A' R → KT u2 u' (va_up (va_up A 1 S1) 0 (S0 (A 0))) A' → RT r u2 u' (va_up (va_up A 1 S1) 0 (S0 (A 0))) A' → sm m (m + 16) hm hm' → E1 X EV (d + 18) 10 0 0 (some .int) false cX10_tell Q 105 [.ref m, .int (nI e), y] [] 0 0 hm' hs := by
      intro hm' u' A' hM' k' hr s'
      have e1 : A' 1 = S1 := k'.2.1
      rcases r with ⟨lm, S⟩ | ⟨f, at', rg⟩
      · obtain ⟨r9, r10, r12, r0, rk⟩ := hr
        simp (disch := first | omega | (simp only [List.length_cons, List.length_nil]; omega)) only [r_al0 dX10_tell_105, r_getf dX10_tell_106 F10_76, r_if_ne (tgt := 122) dX10_tell_109 rfl, r_al0 dX10_tell_112, r_iconst dX10_tell_113 ki0, r_putf dX10_tell_114 F10_193, r_al0 dX10_tell_117, r_getf dX10_tell_118 F10_126, r_iret dX10_tell_121 (Nat.zero_le _) (Nat.zero_le _), r_iconst dX10_tell_122 ki0, r_is2 dX10_tell_123, List.cons_append, List.nil_append, Nat.reduceAdd, Option.toList, cat_f, cat_i, cat_n, cat_r, eq_self, fit_i, ft10_3, g10_12, g10_9, p10_3, pk_un, pk_us, rd_up_eq, rd_up_ne, true_and, up_eq, up_ne, up_up, z0, hM'.r, rd_own hM'.r, hM'.r, rd_own hM'.r, r9, r12]
        refine ⟨fun y => absurd trivial y, fun _ => ?_⟩
        exact h1 _ _ A' _ (hM'.o _) (s'.up (by omega)) (k'.1.2.1.trans g6) k'.2.2.1 k'.2.2.2.1 k'.2.2.2.2.1 k'.2.2.2.2.2.1 k'.2.2.2.2.2.2 ⟨rfl, rfl, r9, r10.trans g10, r0, rk.1.trans g18, rk.2⟩
      · obtain ⟨⟨hf1, hf6⟩, r9, r10, rk⟩ := hr
        have f0 : ¬ nI f = 0 := fun z => by have := (nI_eq (b := 0) (by omega) (by omega)).mp z; omega
        simp (disch := first | omega | (simp only [List.length_cons, List.length_nil]; omega)) only [r_al0 dX10_tell_105, r_getf dX10_tell_106 F10_76, r_if_ne (tgt := 122) dX10_tell_109 rfl, r_al0 dX10_tell_112, r_iconst dX10_tell_113 ki0, r_putf dX10_tell_114 F10_193, r_al0 dX10_tell_117, r_getf dX10_tell_118 F10_126, r_iret dX10_tell_121 (Nat.zero_le _) (Nat.zero_le _), r_iconst dX10_tell_122 ki0, r_is2 dX10_tell_123, List.cons_append, List.nil_append, Nat.reduceAdd, Option.toList, cat_f, cat_i, cat_n, cat_r, eq_self, fit_i, ft10_3, g10_12, g10_9, p10_3, pk_un, pk_us, rd_up_eq, rd_up_ne, true_and, up_eq, up_ne, up_up, z0, hM'.r, rd_own hM'.r, hM'.r, rd_own hM'.r, r9]
        refine ⟨fun _ => ?_, fun z => absurd f0 z⟩
        suffices H : ∀ k, k ≤ 217 → ∀ hm'' S, MO hm'' m u' (va_up A' 0 S) R → (∀ j, j < k → S j = A 0 j) → sm m (m + 16) hm hm'' → E1 X EV (d + 18) 10 0 0 (some .int) false cX10_tell Q 124 [.ref m, .int (nI e), .int (nI k)] [] 0 0 hm'' hs from
          H 0 (by omega) hm' (A' 0) (by rw [va_self]; exact hM') (fun j hj => absurd hj (by omega)) s'
        have eW0 : ∀ S, (va_up A' 0 S) 0 = S := fun S => rfl
        have eW1 : ∀ S, (va_up A' 0 S) 1 = S1 := fun S => e1
        refine up_loop 217 _ ?_ ?_
        · intro hm'' S hM'' hS s''
          simp (disch := first | omega | (simp only [List.length_cons, List.length_nil]; omega)) only [r_il2 dX10_tell_124, r_sipush dX10_tell_125 ks217, r_ic_ge (tgt := 149) dX10_tell_128 rfl, r_al0 dX10_tell_131, r_getf dX10_tell_132 F10_13, r_il2 dX10_tell_135, r_al0 dX10_tell_136, r_getf dX10_tell_137 F10_17, r_il2 dX10_tell_140, r_iald dX10_tell_141, r_iast dX10_tell_142, r_ii2 dX10_tell_143 kn1, r_gotoB (tgt := 124) dX10_tell_146 rfl, r_bipush dX10_tell_149 kbm30, r_al0 dX10_tell_151, r_getf dX10_tell_152 F10_76, r_isub dX10_tell_155, r_iret dX10_tell_156 (Nat.zero_le _) (Nat.zero_le _), List.cons_append, List.nil_append, Nat.reduceAdd, Option.toList, aI_ok, cat_f, cat_i, cat_n, cat_r, eq_self, g10_0, g10_1, g10_9, pk_un, pk_us, rd_up_eq, rd_up_ne, sI_ok, true_and, up_eq, up_ne, up_up, z0, hM''.r, rd_own hM''.r, hM''.r, rd_own hM''.r, i217, r9]
          refine ⟨fun _ => ?_, fun z => absurd (Int32.le_refl _) z⟩
          exact h1 _ u' _ _ hM'' s'' (k'.1.2.1.trans g6) k'.2.2.1 k'.2.2.2.1 k'.2.2.2.2.1 k'.2.2.2.2.2.1 k'.2.2.2.2.2.2 ⟨rfl, k'.1.1.trans g3, r9, r10, hS, RK.up (u1 := u2) (A1 := va_up (va_up A 1 S1) 0 (S0 (A 0))) ⟨g18, rfl⟩ (by cases rg <;> exact rk)⟩
        · intro k hk ih hm'' S hM'' hS s''
          simp (disch := first | omega | (simp only [List.length_cons, List.length_nil]; omega)) only [r_il2 dX10_tell_124, r_sipush dX10_tell_125 ks217, r_ic_ge (tgt := 149) dX10_tell_128 rfl, r_al0 dX10_tell_131, r_getf dX10_tell_132 F10_13, r_il2 dX10_tell_135, r_al0 dX10_tell_136, r_getf dX10_tell_137 F10_17, r_il2 dX10_tell_140, r_iald dX10_tell_141, r_iast dX10_tell_142, r_ii2 dX10_tell_143 kn1, r_gotoB (tgt := 124) dX10_tell_146 rfl, r_bipush dX10_tell_149 kbm30, r_al0 dX10_tell_151, r_getf dX10_tell_152 F10_76, r_isub dX10_tell_155, r_iret dX10_tell_156 (Nat.zero_le _) (Nat.zero_le _), List.cons_append, List.nil_append, Nat.reduceAdd, Option.toList, aI_ok, cat_f, cat_i, cat_n, cat_r, eq_self, g10_0, g10_1, g10_9, pk_un, pk_us, rd_up_eq, rd_up_ne, sI_ok, true_and, up_eq, up_ne, up_up, z0, hM''.r, rd_own hM''.r, hM''.r0, rd_own hM''.r0, hM''.r1, rd_own hM''.r1, eW0, eW1, i217, nI_clamp (show k < 2 ^ 31 by omega)]
          try simp (disch := omega) only [E2, nI_1, nI_add, nI_leI, nI_ltI, nI_eq, nI_clamp]
          refine ⟨fun z => absurd z (by omega), fun _ => ⟨vp_in_nI (by omega) (by omega), vp_in_nI (by omega) (by omega), ?_⟩⟩
          have h5 := hM''.w0 (upd S k (S1 k))
          rw [va_va] at h5
          exact ih _ _ h5 (fun j hj => by
            by_cases ej : j = k
            · rw [ej, pk_us]; exact hS1 k (by omega)
            · rw [pk_un ej]; exact hS j (by omega)) (s''.up (by omega))
    suffices H : ∀ c lm q S hm' u' A', TR (A 5) e c lm q S r → q ≤ e → MO hm' m u' A' R → KT u2 u' (va_up (va_up A 1 S1) 0 (S0 (A 0))) A' → A' 0 = S → u' 8 = nI q → u' 9 = 0 → u' 10 = -1 → u' 12 = nI lm → RK none u2 u' (va_up (va_up A 1 S1) 0 (S0 (A 0))) A' → sm m (m + 16) hm hm' → E1 X EV (d + 18) 10 0 0 (some .int) false cX10_tell Q 83 [.ref m, .int (nI e), y] [] 0 0 hm' hs by
      exact H c 0 0 (S0 (A 0)) hm3 u2 _ hT (by omega) hM3 ⟨⟨rfl, rfl, rfl⟩, rfl, rfl, rfl, rfl, rfl, rfl⟩ rfl g8 g9 g10 g12 ⟨rfl, rfl⟩ s3
    intro c
    induction c with
    | zero =>
      intro lm q S hm' u' A' hT hq hM' k' r0 r8 r9 r10 r12 rk s'
      obtain ⟨hT, hr⟩ := hT
      have a5 : A' 5 = A 5 := k'.2.2.2.1
      simp only [r_al0 dX10_tell_83, r_getf dX10_tell_84 F10_76, r_if_neB (tgt := 105) dX10_tell_87 rfl, r_al0 dX10_tell_90, List.cons_append, List.nil_append, Nat.reduceAdd, Option.toList, g10_9, z0, hM'.r, rd_own hM'.r, hM'.r, rd_own hM'.r, r9]
      refine ⟨fun z => absurd trivial z, fun _ => ?_⟩
      refine r_iv1 dX10_tell_91 M10_95 Y160 O160 (Nat.le_of_ble_eq_true rfl) (rcv_own hM'.r) (Nat.le_refl _) (Nat.le_refl _) ?_
      refine m_peek hM' (k'.1.2.2.trans g7) he9 r8 hq (fun st hm4 hst hM4 s4 => ?_)
      rw [a5] at hst
      have := nxq_un hT hst
      subst this
      rw [if_neg (Nat.lt_irrefl _)]
      simp only [r_iconst dX10_tell_94 kim1, r_ic_eqB (tgt := 105) dX10_tell_95 rfl, r_al0 dX10_tell_98, List.cons_append, List.nil_append, Nat.reduceAdd, Option.toList, z0]
      refine ⟨fun _ => ?_, fun z => absurd trivial z⟩
      try simp (disch := omega) only [E2, nI_1, nI_add, nI_leI, nI_ltI, nI_eq, nI_clamp]
      exact hr105 hm4 _ A' hM4 k' (by rw [hr]; exact ⟨r9, r10.trans g10.symm, r12, r0, rk⟩) (s'.trans s4)
    | succ c ih =>
      intro lm q S hm' u' A' hT hq hM' k' r0 r8 r9 r10 r12 rk s'
      obtain ⟨st, hst, hlt, hlm, o, hL, h⟩ := hT
      have a5 : A' 5 = A 5 := k'.2.2.2.1
      simp only [r_al0 dX10_tell_83, r_getf dX10_tell_84 F10_76, r_if_neB (tgt := 105) dX10_tell_87 rfl, r_al0 dX10_tell_90, List.cons_append, List.nil_append, Nat.reduceAdd, Option.toList, g10_9, z0, hM'.r, rd_own hM'.r, hM'.r, rd_own hM'.r, r9]
      refine ⟨fun z => absurd trivial z, fun _ => ?_⟩
      refine r_iv1 dX10_tell_91 M10_95 Y160 O160 (Nat.le_of_ble_eq_true rfl) (rcv_own hM'.r) (Nat.le_refl _) (Nat.le_refl _) ?_
      refine m_peek hM' (k'.1.2.2.trans g7) he9 r8 hq (fun st' hm4 hst' hM4 s4 => ?_)
      rw [a5] at hst'
      have := nxq_un hst hst'
      subst this
      have s4 := s'.trans s4
      have nb : ¬ A' 5 st &&& 255 = -1 := by
        obtain ⟨b, hb, eb⟩ := hBe st hlt
        rw [a5, (by_dg hb eb).2.2.2]
        intro z
        have := congrArg Int32.toInt z
        rw [nI_toInt (by omega)] at this
        have e1 : (-1 : Int32).toInt = -1 := by decide
        omega
      rw [if_pos hlt]
      simp only [r_iconst dX10_tell_94 kim1, r_ic_eqB (tgt := 105) dX10_tell_95 rfl, r_al0 dX10_tell_98, List.cons_append, List.nil_append, Nat.reduceAdd, Option.toList, z0]
      refine ⟨fun z => absurd z nb, fun _ => ?_⟩
      refine r_iv1 dX10_tell_99 M10_190 Y168 O168 (Nat.le_of_ble_eq_true rfl) (rcv_own hM4.r) (Nat.le_refl _) (Nat.le_refl _) ?_
      refine m_lineRead hM4 (by rw [a5]; exact hBe) hK (fun a ha => by rw [s4 a (by omega)]; exact hlo a ha) hBm (k'.1.2.2.trans g7) he9 pk_us (by omega) r9 r12 (by omega) (by rw [a5, r0]; exact hL) (fun hm5 u5 A5 hM5 k5 ro5 l5 s5 => ?_)
      have s5 := s4.trans s5
      have k5 : KT u2 u5 _ A5 := k'.trans (u' := u') (A' := A') k5
      rcases h with ⟨f, at', rg, hf1, hf6, rfl, hr⟩ | ⟨q1, S1', rfl, hq1, hT⟩
      · obtain ⟨x9, x10, xk⟩ := ro5
        have f0 : ¬ nI f = 0 := fun z => by have := (nI_eq (b := 0) (by omega) (by omega)).mp z; omega
        simp only [r_gotoB (tgt := 83) dX10_tell_102 rfl, List.cons_append, List.nil_append, Nat.reduceAdd, Option.toList, z0]
        try simp (disch := omega) only [E2, nI_1, nI_add, nI_leI, nI_ltI, nI_eq, nI_clamp]
        simp only [r_al0 dX10_tell_83, r_getf dX10_tell_84 F10_76, r_if_neB (tgt := 105) dX10_tell_87 rfl, r_al0 dX10_tell_90, List.cons_append, List.nil_append, Nat.reduceAdd, Option.toList, g10_9, z0, hM5.r, rd_own hM5.r, hM5.r, rd_own hM5.r, x9]
        refine ⟨fun _ => ?_, fun z => absurd f0 z⟩
        try simp (disch := omega) only [E2, nI_1, nI_add, nI_leI, nI_ltI, nI_eq, nI_clamp]
        exact hr105 hm5 u5 A5 hM5 k5 (by rw [hr]; exact ⟨⟨hf1, hf6⟩, x9, x10, RK.up rk (by cases rg <;> exact xk)⟩) s5
      · obtain ⟨x9, x10, x8, x0, xk⟩ := ro5
        simp only [r_gotoB (tgt := 83) dX10_tell_102 rfl, List.cons_append, List.nil_append, Nat.reduceAdd, Option.toList, z0]
        try simp (disch := omega) only [E2, nI_1, nI_add, nI_leI, nI_ltI, nI_eq, nI_clamp]
        exact ih (lm + 1) q1 S1' hm5 u5 A5 hT hq1 hM5 k5 x0 x8 x9 (x10.trans r10) (l5 _ _ rfl) (RK.up rk xk) s5
  suffices H : ∀ k, k ≤ 217 → ∀ hm' S1, MO hm' m u2 (va_up A 1 S1) R → (∀ j, j < k → S1 j = A 0 j) → sm m (m + 16) hm hm' → E1 X EV (d + 18) 10 0 0 (some .int) false cX10_tell Q 54 [.ref m, .int (nI e), .int (nI k)] [] 0 0 hm' hs from
    H 0 (by omega) hm2 (A 1) (by rw [va_self]; exact hM2) (fun j hj => absurd hj (by omega)) s2
  refine up_loop 217 _ ?_ ?_
  · intro hm' S1 hM' hS s'
    simp (disch := first | omega | (simp only [List.length_cons, List.length_nil]; omega)) only [r_il2 dX10_tell_54, r_sipush dX10_tell_55 ks217, r_ic_geB (tgt := 79) dX10_tell_58 rfl, r_al0 dX10_tell_61, r_getf dX10_tell_62 F10_17, r_il2 dX10_tell_65, r_al0 dX10_tell_66, r_getf dX10_tell_67 F10_13, r_il2 dX10_tell_70, r_iald dX10_tell_71, r_iast dX10_tell_72, r_ii2 dX10_tell_73 kn1, r_gotoB (tgt := 54) dX10_tell_76 rfl, List.cons_append, List.nil_append, Nat.reduceAdd, Option.toList, aI_ok, cat_f, cat_i, cat_n, cat_r, eq_self, g10_0, g10_1, pk_un, pk_us, rd_up_eq, rd_up_ne, sI_ok, true_and, up_eq, up_ne, up_up, z0, hM'.r, rd_own hM'.r, hM'.r, rd_own hM'.r, i217]
    refine ⟨fun _ => ?_, fun z => absurd (Int32.le_refl _) z⟩
    try simp (disch := omega) only [E2, nI_1, nI_add, nI_leI, nI_ltI, nI_eq, nI_clamp]
    exact h79 hm' S1 hM' hS s' _
  · intro k hk ih hm' S1 hM' hS s'
    simp (disch := first | omega | (simp only [List.length_cons, List.length_nil]; omega)) only [r_il2 dX10_tell_54, r_sipush dX10_tell_55 ks217, r_ic_geB (tgt := 79) dX10_tell_58 rfl, r_al0 dX10_tell_61, r_getf dX10_tell_62 F10_17, r_il2 dX10_tell_65, r_al0 dX10_tell_66, r_getf dX10_tell_67 F10_13, r_il2 dX10_tell_70, r_iald dX10_tell_71, r_iast dX10_tell_72, r_ii2 dX10_tell_73 kn1, r_gotoB (tgt := 54) dX10_tell_76 rfl, List.cons_append, List.nil_append, Nat.reduceAdd, Option.toList, aI_ok, cat_f, cat_i, cat_n, cat_r, eq_self, g10_0, g10_1, pk_un, pk_us, rd_up_eq, rd_up_ne, sI_ok, true_and, up_eq, up_ne, up_up, z0, hM'.r, rd_own hM'.r, hM'.r0, rd_own hM'.r0, hM'.r1, rd_own hM'.r1, eV0, eV1, i217, nI_clamp (show k < 2 ^ 31 by omega)]
    try simp (disch := omega) only [E2, nI_1, nI_add, nI_leI, nI_ltI, nI_eq, nI_clamp]
    refine ⟨fun z => absurd z (by omega), fun _ => ⟨vp_in_nI (by omega) (by omega), vp_in_nI (by omega) (by omega), ?_⟩⟩
    have h5 := hM'.w1 (upd S1 k (A 0 k))
    rw [va_va] at h5
    exact ih _ _ h5 (fun j hj => by
      by_cases ej : j = k
      · rw [ej, pk_us]
      · rw [pk_un ej]; exact hS j (by omega)) (s'.up (by omega))
end MM
