/-- what to ask, as the model seeks it -/
abbrev AK : Type := Int64 × Int32 × Int32
def amin1 (c : Nat → Nat → Prop) [∀ a b, Decidable (c a b)] (v : Nat → Nat → Int64) (a : Nat) : Nat → AK → AK
  | 0, q => q
  | j + 1, q => if c a (a + 1 + j) ∧ ((amin1 c v a j q).1 = -1 ∨ v a (a + 1 + j) < (amin1 c v a j q).1) then (v a (a + 1 + j), nI a, nI (a + 1 + j)) else amin1 c v a j q
def amin (c : Nat → Nat → Prop) [∀ a b, Decidable (c a b)] (v : Nat → Nat → Int64) (n : Nat) (q : AK) : Nat → AK
  | 0 => q
  | a + 1 => amin1 c v a (n - 1 - a) (amin c v n q a)
abbrev akC (S : Nat → Int32) (L : Nat → Nat) (n a b : Nat) : Prop := (a ≠ b ∧ cmn S L a b ≠ -1) ∧ ¬ bt (cl S n a) b = true ∧ ¬ bt (cl S n b) a = true
def akV (S : Nat → Int32) (n a b : Nat) : Int64 := if lN (ordW S n b a) < lN (ordW S n a b) then lN (ordW S n a b) else lN (ordW S n b a)
section M22
variable {X : HM} {EV : Nat → Value} {d : Nat} {hm : HM} {hs : Nat} {Q : QT} {m n : Nat} {u : Nat → Int32} {A : Nat → Nat → Int32} {R : Nat → Int64} {w h nl np nw nr : Nat} {L : Nat → Nat}
theorem m_asks (hM : MO hm m u A R) (hn : A 0 2 = nI n) (hn12 : n ≤ 12) (hL : LN (A 0) n L)
    (hQ : ∀ hm' u' A' R' q, MO hm' m u' A' R' → KM u u' A A' → q = amin (akC (A 0) L n) (akV (A 0) n) n (-1, u 22, u 23) n → u' 22 = q.2.1 → u' 23 = q.2.2 → sm m (m + 16) hm hm' → Q (some (.long q.1)) hm' hs) : CC X EV (d + 6) 245 [.ref m] hm hs Q := by
  obtain ⟨S, eS⟩ : ∃ S, S = A 0 := ⟨_, rfl⟩
  rw [← eS] at hn hL hQ
  refine c_of (ls2 := [.ref m, .null, .null, .null, .null, .null, .null, .null, .null, .null, .null]) Y245 (Nat.le_of_ble_eq_true rfl) rfl I245 ?_
  simp only [r_ldc2 dX10_asks_0 K10_238, r_ls1 dX10_asks_3, r_iconst dX10_asks_4 ki0, r_is3 dX10_asks_5, List.cons_append, List.nil_append, Nat.reduceAdd, Option.toList, cat_f, cat_i, cat_n, cat_r, eq_self, true_and, z0]
  suffices H : ∀ a, a ≤ n → ∀ hm' u' A' R' b y5 y6 y7 y8 y9 y10, (∀ v ∈ [b, y5, y6, y7, y8, y9, y10], v.category = 1 ∨ True) → MO hm' m u' A' R' → KM u u' A A' → u' 22 = (amin (akC S L n) (akV S n) n (-1, u 22, u 23) a).2.1 → u' 23 = (amin (akC S L n) (akV S n) n (-1, u 22, u 23) a).2.2 → sm m (m + 16) hm hm' →
      E1 X EV (d + 5) 10 0 0 (some .long) false cX10_asks Q 6 [.ref m, .long (amin (akC S L n) (akV S n) n (-1, u 22, u 23) a).1, .null, .int (nI a), b, y5, y6, y7, y8, y9, y10] [] 0 0 hm' hs from
    H 0 (by omega) hm u A R _ _ _ _ _ _ _ (fun _ _ => .inr trivial) hM KM.rf rfl rfl sm.rf
  refine up_loop n _ ?_ ?_
  · intro hm' u' A' R' b y5 y6 y7 y8 y9 y10 _ hM' k' e1 e2 s'
    have e4 : A' 0 2 = nI n := by rw [k'.S, ← eS]; exact hn
    simp only [r_il3 dX10_asks_6, r_al0 dX10_asks_7, r_getf dX10_asks_8 F10_13, r_iconst dX10_asks_11 ki2, r_iald dX10_asks_12, r_ic_ge (tgt := 156) dX10_asks_13 rfl, r_il3 dX10_asks_16, r_iconst dX10_asks_17 ki1, r_iadd dX10_asks_18, r_is4 dX10_asks_19, r_ll1 dX10_asks_156, r_lret dX10_asks_157 (Nat.zero_le _) (Nat.zero_le _), List.cons_append, List.nil_append, Nat.reduceAdd, Option.toList, aI_ok, cat_f, cat_i, cat_n, cat_r, eq_self, g10_0, true_and, z0, hM'.r, rd_own hM'.r, hM'.r0, rd_own hM'.r0, vs2, ck2, e4, true_and]
    exact ⟨fun _ => hQ hm' u' A' R' _ hM' k' rfl e1 e2 s', fun z => absurd (Int32.le_refl _) z⟩
  · intro a ha ih hm' u' A' R' b y5 y6 y7 y8 y9 y10 _ hM' k' e1 e2 s'
    have e4 : A' 0 2 = nI n := by rw [k'.S, ← eS]; exact hn
    simp only [r_il3 dX10_asks_6, r_al0 dX10_asks_7, r_getf dX10_asks_8 F10_13, r_iconst dX10_asks_11 ki2, r_iald dX10_asks_12, r_ic_ge (tgt := 156) dX10_asks_13 rfl, r_il3 dX10_asks_16, r_iconst dX10_asks_17 ki1, r_iadd dX10_asks_18, r_is4 dX10_asks_19, r_ll1 dX10_asks_156, r_lret dX10_asks_157 (Nat.zero_le _) (Nat.zero_le _), List.cons_append, List.nil_append, Nat.reduceAdd, Option.toList, aI_ok, cat_f, cat_i, cat_n, cat_r, eq_self, g10_0, true_and, z0, hM'.r, rd_own hM'.r, hM'.r0, rd_own hM'.r0, vs2, ck2, e4, true_and, nI_1]
    refine ⟨fun q => absurd ((nI_leI (by omega) (by omega)).mp q) (by omega), fun _ => ?_⟩
    unfold amin at ih
    generalize amin (akC S L n) (akV S n) n (-1, u 22, u 23) a = P at e1 e2 ih ⊢
    suffices H : ∀ j, j ≤ n - 1 - a → ∀ hm' u' A' R' y5 y6 y7 y8 y9 y10, MO hm' m u' A' R' → KM u u' A A' → u' 22 = (amin1 (akC S L n) (akV S n) a j P).2.1 → u' 23 = (amin1 (akC S L n) (akV S n) a j P).2.2 → sm m (m + 16) hm hm' →
        E1 X EV (d + 5) 10 0 0 (some .long) false cX10_asks Q 21 [.ref m, .long (amin1 (akC S L n) (akV S n) a j P).1, .null, .int (nI a), .int (nI (a + 1 + j)), y5, y6, y7, y8, y9, y10] [] 0 0 hm' hs from
      H 0 (by omega) hm' u' A' R' _ _ _ _ _ _ hM' k' e1 e2 s'
    refine up_loop (n - 1 - a) _ ?_ ?_
    · intro hm' u' A' R' y5 y6 y7 y8 y9 y10 hM' k' e1 e2 s'
      have e4 : A' 0 2 = nI n := by rw [k'.S, ← eS]; exact hn
      rw [show a + 1 + (n - 1 - a) = n by omega]
      simp only [r_il4 dX10_asks_21, r_al0 dX10_asks_23, r_getf dX10_asks_24 F10_13, r_iconst dX10_asks_27 ki2, r_iald dX10_asks_28, r_ic_ge (tgt := 150) dX10_asks_29 rfl, r_al0 dX10_asks_32, r_ii3 dX10_asks_150 kn1, r_gotoB (tgt := 6) dX10_asks_153 rfl, List.cons_append, List.nil_append, Nat.reduceAdd, Option.toList, aI_ok, cat_f, cat_i, cat_n, cat_r, eq_self, g10_0, true_and, z0, hM'.r, rd_own hM'.r, hM'.r0, rd_own hM'.r0, vs2, ck2, e4, true_and, nI_1]
      refine ⟨fun _ => ?_, fun z => absurd (Int32.le_refl _) z⟩
      try simp (disch := omega) only [E2, nI_1, nI_add, nI_leI, nI_ltI, nI_eq, nI_clamp]
      exact ih hm' u' A' R' _ _ _ _ _ _ _ (fun _ _ => .inr trivial) hM' k' e1 e2 s'
    · intro j hj ih2 hm' u' A' R' y5 y6 y7 y8 y9 y10 hM' k' e1 e2 s'
      have e4 : A' 0 2 = nI n := by rw [k'.S, ← eS]; exact hn
      have hb : a + 1 + j < n := by omega
      rw [show a + 1 + (j + 1) = a + 1 + j + 1 by omega] at ih2
      unfold amin1 at ih2
      generalize amin1 (akC S L n) (akV S n) a j P = P2 at e1 e2 ih2 ⊢
      generalize a + 1 + j = b at hb ih2 ⊢
      have hia := vp_in_nI (show a < 12 by omega) (by omega)
      have hib := vp_in_nI (show b < 12 by omega) (by omega)
      simp only [r_il4 dX10_asks_21, r_al0 dX10_asks_23, r_getf dX10_asks_24 F10_13, r_iconst dX10_asks_27 ki2, r_iald dX10_asks_28, r_ic_ge (tgt := 150) dX10_asks_29 rfl, r_al0 dX10_asks_32, r_ii3 dX10_asks_150 kn1, r_gotoB (tgt := 6) dX10_asks_153 rfl, List.cons_append, List.nil_append, Nat.reduceAdd, Option.toList, aI_ok, cat_f, cat_i, cat_n, cat_r, eq_self, g10_0, true_and, z0, hM'.r, rd_own hM'.r, hM'.r0, rd_own hM'.r0, vs2, ck2, e4, true_and]
      refine ⟨fun q => absurd ((nI_leI (by omega) (by omega)).mp q) (by omega), fun _ => ?_⟩
      refine r_iv1 dX10_asks_33 M10_169 Y189 O189 (Nat.le_of_ble_eq_true rfl) (rcv_own hM'.r) (Nat.le_refl _) (Nat.le_refl _) ?_
      refine m_laysOver2 hM' e4 hn12 (fun hm2 A2 hM2 k2 l2 s2 => ?_)
      have e5 : A2 0 = S := (k2.S.trans k'.S).trans eS.symm
      have kk2 := k'.trans k2
      have ss2 := s'.trans s2
      rw [show LO A2 n ↔ ∀ k, k < n → A2 13 k = cl S n k from by unfold LO; rw [e5]] at l2
      have skip : ∀ hm3 u3 A3 R3 z5 z6 z7 z8 z9 z10, MO hm3 m u3 A3 R3 → KM u u3 A A3 → u3 22 = P2.2.1 → u3 23 = P2.2.2 → sm m (m + 16) hm hm3 → ¬ (akC S L n a b ∧ (P2.1 = -1 ∨ akV S n a b < P2.1)) →
          E1 X EV (d + 5) 10 0 0 (some .long) false cX10_asks Q 144 [.ref m, .long P2.1, .null, .int (nI a), .int (nI b), z5, z6, z7, z8, z9, z10] [] 0 0 hm3 hs := by
        intro hm3 u3 A3 R3 z5 z6 z7 z8 z9 z10 hM3 k3 f1 f2 s3 hno
        have := ih2 hm3 u3 A3 R3 z5 z6 z7 z8 z9 z10 hM3 k3
        rw [if_neg hno] at this
        have := this f1 f2 s3
        simp only [r_ii4 dX10_asks_144 kn1, r_gotoB (tgt := 21) dX10_asks_147 rfl, List.cons_append, List.nil_append, Nat.reduceAdd, Option.toList, cat_f, cat_i, cat_n, cat_r, eq_self, true_and, z0]
        try simp (disch := omega) only [E2, nI_1, nI_add, nI_leI, nI_ltI, nI_eq, nI_clamp]
        exact this
      simp only [r_al0 dX10_asks_36, r_il3 dX10_asks_37, r_il4 dX10_asks_38, List.cons_append, List.nil_append, Nat.reduceAdd, Option.toList, z0]
      refine r_iv3 dX10_asks_40 M10_175 Y188 O188 (Nat.le_of_ble_eq_true rfl) (rcv_own hM2.r) (Nat.le_refl _) (Nat.le_refl _) ?_
      rw [← e5] at hL
      refine m_cross hM2 (by omega) (by omega) (hL a ha).1 (hL a ha).2 (hL b hb).1 (hL b hb).2 ?_
      rw [e5] at hL ⊢
      simp only [r_if_eqB (tgt := 144) dX10_asks_43 rfl, r_al0 dX10_asks_46, r_getf dX10_asks_47 F10_30, r_il3 dX10_asks_50, r_iald dX10_asks_51, r_il4 dX10_asks_52, List.cons_append, List.nil_append, Nat.reduceAdd, Option.toList, aI_ok, g10_13, z0, hM2.r, rd_own hM2.r, hM2.r13, rd_own hM2.r13, nI_clamp (show a < 2 ^ 31 by omega), l2 a ha]
      refine ⟨fun c1 => ?_, fun c1 => ⟨hia, ?_⟩⟩
      · try simp (disch := omega) only [E2, nI_1, nI_add, nI_leI, nI_ltI, nI_eq, nI_clamp]
        exact skip hm2 _ A2 R' _ _ _ _ _ _ hM2 kk2 e1 e2 ss2 (fun z => c1 z.1.1)
      have c1 := Classical.not_not.mp c1
      refine r_ist2 dX10_asks_54 M10_178 Y156 (Nat.le_of_ble_eq_true rfl) (Nat.le_refl _) (Nat.le_refl _) ?_
      refine m_has (by omega) ?_
      simp only [r_if_neB (tgt := 144) dX10_asks_57 rfl, r_al0 dX10_asks_60, r_getf dX10_asks_61 F10_30, r_il4 dX10_asks_64, r_iald dX10_asks_66, r_il3 dX10_asks_67, List.cons_append, List.nil_append, Nat.reduceAdd, Option.toList, aI_ok, g10_13, z0, hM2.r, rd_own hM2.r, hM2.r13, rd_own hM2.r13, nI_clamp (show b < 2 ^ 31 by omega), l2 b hb]
      refine ⟨fun c2 => ?_, fun c2 => ⟨hib, ?_⟩⟩
      · try simp (disch := omega) only [E2, nI_1, nI_add, nI_leI, nI_ltI, nI_eq, nI_clamp]
        exact skip hm2 _ A2 R' _ _ _ _ _ _ hM2 kk2 e1 e2 ss2 (fun z => c2 z.1.2.1)
      refine r_ist2 dX10_asks_68 M10_178 Y156 (Nat.le_of_ble_eq_true rfl) (Nat.le_refl _) (Nat.le_refl _) ?_
      refine m_has (by omega) ?_
      simp only [r_if_eq (tgt := 77) dX10_asks_71 rfl, r_gotoB (tgt := 144) dX10_asks_74 rfl, r_al0 dX10_asks_77, r_il3 dX10_asks_78, r_il4 dX10_asks_79, List.cons_append, List.nil_append, Nat.reduceAdd, Option.toList, z0]
      refine ⟨fun c3 => ?_, fun c3 => ?_⟩
      rotate_left
      · try simp (disch := omega) only [E2, nI_1, nI_add, nI_leI, nI_ltI, nI_eq, nI_clamp]
        exact skip hm2 _ A2 R' _ _ _ _ _ _ hM2 kk2 e1 e2 ss2 (fun z => c3 z.1.2.2)
      have c2 : ¬ bt (cl S n a) b = true := by grind
      have hc : akC S L n a b := ⟨c1, c2, c3⟩
      have e42 : A2 0 2 = nI n := by rw [e5]; exact hn
      refine r_iv3 dX10_asks_81 M10_263 Y211 O211 (Nat.le_of_ble_eq_true rfl) (rcv_own hM2.r) (Nat.le_refl _) (Nat.le_refl _) ?_
      refine m_ordersWith hM2 e42 hn12 ha hb (fun hm3 A3 R3 hM3 k3 s3 => ?_)
      have e6 : A3 0 = S := k3.S.trans e5
      rw [e5]
      simp only [r_ls5 dX10_asks_84, r_al0 dX10_asks_86, r_il4 dX10_asks_87, r_il3 dX10_asks_89, List.cons_append, List.nil_append, Nat.reduceAdd, Option.toList, cat_f, cat_i, cat_n, cat_r, eq_self, true_and, z0]
      refine r_iv3 dX10_asks_90 M10_263 Y211 O211 (Nat.le_of_ble_eq_true rfl) (rcv_own hM3.r) (Nat.le_refl _) (Nat.le_refl _) ?_
      refine m_ordersWith hM3 (by rw [e6]; exact hn) hn12 hb ha (fun hm4 A4 R4 hM4 k4 s4 => ?_)
      rw [e6]
      have kk4 := (kk2.trans k3).trans k4
      have ss4 := (ss2.trans s3).trans s4
      have e9 : ∀ z9, z9 = akV S n a b → ∀ z5 z6 z7 z8, E1 X EV (d + 5) 10 0 0 (some .long) false cX10_asks Q 112 [.ref m, .long P2.1, .null, .int (nI a), .int (nI b), z5, z6, z7, z8, .long z9, .null] [] 0 0 hm4 hs := by
        intro z9 ez z5 z6 z7 z8
        have up2 := ih2 (im_up hm4 m (.inr (10, fs_MO m (upd (upd u' 22 (nI a)) 23 (nI b))))) _ A4 R4 z5 z6 z7 z8 (.long z9) .null (hM4.o _)
          ⟨fun k a1 a2 a3 a4 a5 => by rw [pk_un a5, pk_un a4]; exact kk4.1 k a1 a2 a3 a4 a5, kk4.2⟩
        have sk := skip hm4 u' A4 R4 z5 z6 z7 z8 (.long z9) .null hM4 kk4 e1 e2 ss4
        simp (disch := first | omega | (simp only [List.length_cons, List.length_nil]; omega)) only [r_ll1 dX10_asks_112, r_ldc2 dX10_asks_113 K10_238, r_lcmp dX10_asks_116, r_if_eq (tgt := 130) dX10_asks_117 rfl, r_ll9 dX10_asks_120, r_ll1 dX10_asks_122, r_lcmp dX10_asks_123, r_if_lt (tgt := 130) dX10_asks_124 rfl, r_gotoB (tgt := 144) dX10_asks_127 rfl, r_ll9 dX10_asks_130, r_ls1 dX10_asks_132, r_al0 dX10_asks_133, r_il3 dX10_asks_134, r_putf dX10_asks_135 F10_328, r_al0 dX10_asks_138, r_il4 dX10_asks_139, r_putf dX10_asks_141 F10_331, List.cons_append, List.nil_append, Nat.reduceAdd, Option.toList, cat_f, cat_i, cat_n, cat_r, eq_self, fit_i, ft10_22, ft10_23, p10_22, p10_23, pk_un, pk_us, rd_up_eq, rd_up_ne, true_and, up_eq, up_ne, up_up, z0, hM4.r, rd_own hM4.r, hM4.r, rd_own hM4.r, lg_cmp_eq, lg_cmp_lt, pk_us, pk_un]
        have fin : (P2.1 = -1 ∨ akV S n a b < P2.1) → E1 X EV (d + 5) 10 0 0 (some .long) false cX10_asks Q 144 [.ref m, .long z9, .null, .int (nI a), .int (nI b), z5, z6, z7, z8, .long z9, .null] [] 0 0 (im_up hm4 m (.inr (10, fs_MO m (upd (upd u' 22 (nI a)) 23 (nI b))))) hs := by
          intro hh
          rw [if_pos ⟨hc, hh⟩] at up2
          have := up2 (by rw [pk_un (by decide), pk_us]) pk_us (ss4.up (by omega))
          rw [← ez] at this
          simp only [r_ii4 dX10_asks_144 kn1, r_gotoB (tgt := 21) dX10_asks_147 rfl, List.cons_append, List.nil_append, Nat.reduceAdd, Option.toList, cat_f, cat_i, cat_n, cat_r, eq_self, true_and, z0]
          try simp (disch := omega) only [E2, nI_1, nI_add, nI_leI, nI_ltI, nI_eq, nI_clamp]
          exact this
        refine ⟨fun g1 => ?_, fun g1 => ⟨fun g2 => ?_, fun g2 => ?_⟩⟩
        · exact fin (.inl g1)
        · exact fin (.inr (by rw [← ez]; exact g2))
        · try simp (disch := omega) only [E2, nI_1, nI_add, nI_leI, nI_ltI, nI_eq, nI_clamp]
          refine sk (fun z => ?_)
          rcases z.2 with g | g
          · exact g1 g
          · exact g2 (by rw [ez]; exact g)
      simp only [r_ls7 dX10_asks_93, r_ll5 dX10_asks_95, r_ll7 dX10_asks_97, r_lcmp dX10_asks_99, r_if_le (tgt := 108) dX10_asks_100 rfl, r_ll5 dX10_asks_103, r_goto (tgt := 110) dX10_asks_105 rfl, r_ll7 dX10_asks_108, r_ls9 dX10_asks_110, List.cons_append, List.nil_append, Nat.reduceAdd, Option.toList, cat_f, cat_i, cat_n, cat_r, eq_self, true_and, z0, lg_le0]
      unfold akV at e9
      refine ⟨fun g => ?_, fun g => ?_⟩
      · rw [if_neg g] at e9
        try simp (disch := omega) only [E2, nI_1, nI_add, nI_leI, nI_ltI, nI_eq, nI_clamp]
        exact e9 _ rfl _ _ _ _
      · rw [if_pos (Classical.not_not.mp g)] at e9
        try simp (disch := omega) only [E2, nI_1, nI_add, nI_leI, nI_ltI, nI_eq, nI_clamp]
        exact e9 _ rfl _ _ _ _
theorem m_asking {wh : Int32} (hM : MO hm m u A R) (hn : A 0 2 = nI n) (hn12 : n ≤ 12) (hL : LN (A 0) n L)
    (h0 : ¬ (0 ≤ wh ∧ wh ≤ 2) → ∀ hm' u' A', MO hm' m u' A' R → KM u u' A A' → sm m (m + 16) hm hm' → Q (some (.long (-2))) hm' hs)
    (hQ : (0 ≤ wh ∧ wh ≤ 2) → ∀ hm' u' A' R' q, MO hm' m u' A' R' → KM u u' A A' → q = amin (akC (A 0) L n) (akV (A 0) n) n (-1, u 22, u 23) n → sm m (m + 16) hm hm' → Q (some (.long (if q.1 = -1 ∨ wh = 2 then q.1 else if wh = 0 then q.2.1.toInt64 else q.2.2.toInt64))) hm' hs) : CC X EV (d + 7) 246 [.ref m, .int wh] hm hs Q := by
  have hM1 := hM.o (upd u 4 0)
  have s1 : sm m (m + 16) hm (im_up hm m (.inr (10, fs_MO m (upd u 4 0)))) := sm.rf.up (by omega)
  refine c_of (ls2 := [.ref m, .int wh, .null, .null]) Y246 (Nat.le_of_ble_eq_true rfl) rfl I246 ?_
  simp (disch := first | omega | (simp only [List.length_cons, List.length_nil]; omega)) only [r_al0 dX10_asking_0, r_iconst dX10_asking_1 ki0, r_putf dX10_asking_2 F10_1, r_il1 dX10_asking_5, r_i2l dX10_asking_6, r_lconst dX10_asking_7 kl0, r_ldc2 dX10_asking_8 K10_269, List.cons_append, List.nil_append, Nat.reduceAdd, Option.toList, fit_i, ft10_4, p10_4, pk_un, pk_us, rd_up_eq, rd_up_ne, true_and, up_eq, up_ne, up_up, z0, hM.r, rd_own hM.r, hM.r, rd_own hM.r]
  generalize im_up hm m (.inr (10, fs_MO m (upd u 4 0))) = hm1 at hM1 s1 ⊢
  refine r_ist3 dX10_asking_11 M10_83 Y155 (Nat.le_of_ble_eq_true rfl) (Nat.le_refl _) (Nat.le_refl _) ?_
  rw [l0_, show (2 : Int64) = (2 : Int32).toInt64 from rfl]
  refine m_in ?_
  simp only [r_if_ne (tgt := 21) dX10_asking_14 rfl, r_ldc2 dX10_asking_17 K10_267, r_lret dX10_asking_20 (Nat.zero_le _) (Nat.zero_le _), r_al0 dX10_asking_21, List.cons_append, List.nil_append, Nat.reduceAdd, Option.toList, z0]
  refine ⟨fun h => ?_, fun h => h0 (Classical.not_not.mp h) _ _ _ hM1 KM.rf.u4 s1⟩
  have hQ := hQ (Classical.not_not.mp h)
  refine r_iv1 dX10_asking_22 M10_334 Y245 O245 (Nat.le_of_ble_eq_true rfl) (rcv_own hM1.r) (Nat.le_refl _) (Nat.le_refl _) ?_
  refine m_asks hM1 (n := n) hn hn12 hL (fun hm2 u2 A2 R2 q hM2 k2 eq e1 e2 s2 => ?_)
  have hQ := hQ hm2 u2 A2 R2 q hM2 (KM.rf.u4.trans k2) eq (s1.trans s2)
  simp only [r_ls2 dX10_asking_25, r_ll2 dX10_asking_26, r_ldc2 dX10_asking_27 K10_238, r_lcmp dX10_asking_30, r_if_eq (tgt := 39) dX10_asking_31 rfl, r_il1 dX10_asking_34, r_iconst dX10_asking_35 ki2, r_ic_ne (tgt := 43) dX10_asking_36 rfl, r_ll2 dX10_asking_39, r_goto (tgt := 60) dX10_asking_40 rfl, r_il1 dX10_asking_43, r_if_ne (tgt := 55) dX10_asking_44 rfl, r_al0 dX10_asking_47, r_getf dX10_asking_48 F10_328, r_i2l dX10_asking_51, r_goto (tgt := 60) dX10_asking_52 rfl, r_al0 dX10_asking_55, r_getf dX10_asking_56 F10_331, r_i2l dX10_asking_59, r_lret dX10_asking_60 (Nat.zero_le _) (Nat.zero_le _), List.cons_append, List.nil_append, Nat.reduceAdd, Option.toList, cat_f, cat_i, cat_n, cat_r, eq_self, g10_22, g10_23, true_and, z0, hM2.r, rd_own hM2.r, hM2.r, rd_own hM2.r, lg_cmp_eq, e1, e2]
  refine ⟨fun g => ?_, fun g => ⟨fun g2 => ⟨fun g3 => ?_, fun g3 => ?_⟩, fun g2 => ?_⟩⟩
  · rw [if_pos (.inl g)] at hQ; exact hQ
  · rw [if_neg (fun z => z.elim g g2), if_neg g3] at hQ; exact hQ
  · rw [if_neg (fun z => z.elim g g2), if_pos (Classical.not_not.mp g3)] at hQ; exact hQ
  · rw [if_pos (.inr (Classical.not_not.mp g2))] at hQ; exact hQ
end M22
