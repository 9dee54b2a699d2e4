/-- a line of the text -/
def LR (T : Nat → Int32) (e q : Nat) (S : Nat → Int32) (lm : Nat) (o : OU) : Prop := ∃ st, nxq T e (fun x => x = 32) q st ∧ ((¬ (st < e ∧ isSm (T st)) ∧ o = oNo 1 st none) ∨ (st < e ∧ isSm (T st) ∧ ∃ z, nxq T e isSm st (st + z) ∧
  (((∀ k, k < 8 → ¬ isKey T st z k) ∧ o = oNo 1 st none) ∨ ∃ k, k < 8 ∧ isKey T st z k ∧ ((k = 0 ∧ 0 < lm ∧ o = oNo 1 st none) ∨ (¬ (k = 0 ∧ 0 < lm) ∧ ((isFl S k ∧ o = oNo 4 st none) ∨ (¬ isFl S k ∧ ∃ o1, LB T e st (st + z) S k o1 ∧
    ((∃ f at' rg, 1 ≤ f ∧ f ≤ 6 ∧ o1 = oNo f at' rg ∧ o = o1) ∨ ∃ q1 S1 st1, o1 = oOk q1 S1 ∧ q1 ≤ e ∧ nxq T e (fun x => x = 32) q1 st1 ∧ ((¬ (st1 < e ∧ T st1 = 59) ∧ o = oNo 1 st1 none) ∨ (st1 < e ∧ T st1 = 59 ∧ o = oOk (st1 + 1) S1))))))))))
/-- the whole text: c lines more -/
def TR (T : Nat → Int32) (e : Nat) : Nat → Nat → Nat → (Nat → Int32) → OU → Prop
  | 0, lm, q, S, r => nxq T e (fun x => x = 32) q e ∧ r = oOk lm S
  | c + 1, lm, q, S, r => ∃ st, nxq T e (fun x => x = 32) q st ∧ st < e ∧ lm < 900 ∧ ∃ o, LR T e st S lm o ∧ ((∃ f at' rg, 1 ≤ f ∧ f ≤ 6 ∧ o = oNo f at' rg ∧ r = o) ∨ ∃ q1 S1, o = oOk q1 S1 ∧ q1 ≤ e ∧ TR T e c (lm + 1) q1 S1 r)
def KT (u u' : Nat → Int32) (A A' : Nat → Nat → Int32) : Prop := (u' 3 = u 3 ∧ u' 6 = u 6 ∧ u' 7 = u 7) ∧ A' 1 = A 1 ∧ A' 2 = A 2 ∧ A' 5 = A 5 ∧ A' 24 = A 24 ∧ A' 25 = A 25 ∧ A' 26 = A 26
theorem KT.trans {u u' u2 : Nat → Int32} {A A' A2 : Nat → Nat → Int32} (a : KT u u' A A') (b : KT u' u2 A' A2) : KT u u2 A A2 :=
  ⟨⟨b.1.1.trans a.1.1, b.1.2.1.trans a.1.2.1, b.1.2.2.trans a.1.2.2⟩, b.2.1.trans a.2.1, b.2.2.1.trans a.2.2.1, b.2.2.2.1.trans a.2.2.2.1, b.2.2.2.2.1.trans a.2.2.2.2.1, b.2.2.2.2.2.1.trans a.2.2.2.2.2.1, b.2.2.2.2.2.2.trans a.2.2.2.2.2.2⟩
theorem KL.kt {u u' : Nat → Int32} {A A' : Nat → Nat → Int32} (a : KL u u' A A') : KT u u' A A' := ⟨⟨a.1.1, a.1.2.1, a.1.2.2.1⟩, a.2⟩
theorem kw_df : ∀ k, k < 8 → ∀ k', k' < 8 → (k = k' ∨ ¬ kwL k = kwL k') ∨ (0 < kwL k ∧ ¬ kwc k 0 = kwc k' 0) := by decide +kernel
theorem kw_lt : ∀ k, k < 8 → kwL k < 10 ∧ ∀ i, i < 10 → kwc k i < 128 := by decide +kernel
theorem isKey_un {T : Nat → Int32} {st z k k' : Nat} (hk : k < 8) (hk' : k' < 8) (h : isKey T st z k) (h' : isKey T st z k') : k = k' := by
  rcases kw_df k hk k' hk' with (h0 | h0) | ⟨h0, h1⟩
  · exact h0
  · exact absurd (h.1.symm.trans h'.1) h0
  · have := h.1
    have := h'.1
    exact absurd ((nI_eq (by have := (kw_lt k hk).2 0 (by omega); omega) (by have := (kw_lt k' hk').2 0 (by omega); omega)).mp ((h.2 0 h0).symm.trans (h'.2 0 (by omega)))) h1
section ML
variable {X : HM} {EV : Nat → Value} {d : Nat} {hm : HM} {hs : Nat} {Q : QT} {B m n : Nat} {u : Nat → Int32} {A : Nat → Nat → Int32} {R : Nat → Int64} {e q lm : Nat} {o : OU}
theorem m_lineRead (hM : MO hm m u A R) (hB : BY (A 5) e) (hK : KY X EV B) (hlo : lowN B hm) (hBm : B ≤ m) (e7 : u 7 = nI e) (he : e ≤ 900) (e8 : u 8 = nI q) (hq : q ≤ e) (h9 : u 9 = 0) (e12 : u 12 = nI lm) (hlm : lm ≤ 900) (h : LR (A 5) e q (A 0) lm o)
    (hQ : ∀ hm' u' A', MO hm' m u' A' R → KT u u' A A' → RO o u u' A A' → (∀ q1 S1, o = oOk q1 S1 → u' 12 = nI (lm + 1)) → sm m (m + 16) hm hm' → Q none hm' hs) : CC X EV (d + 18) 168 [.ref m] hm hs Q := by
  obtain ⟨st, hst, h⟩ := h
  have hse := hst.2.1
  have q9 : (upd u 8 (nI st)) 9 = 0 := (pk_un (by decide)).trans h9
  have q12 : (upd u 8 (nI st)) 12 = nI lm := (pk_un (by decide)).trans e12
  have q7 : (upd u 8 (nI st)) 7 = nI e := (pk_un (by decide)).trans e7
  have q8 : (upd u 8 (nI st)) 8 = nI st := pk_us
  have kn : ∀ f, nI f = 1 ∨ nI f = 4 → ¬ nI f = 0 := fun f h z => by rw [z] at h; revert h; decide
  have h50 : ∀ hm' x, MO hm' m (upd (upd (upd u 8 (nI st)) 9 x) 10 (nI st)) A R → sm m (m + 16) hm hm' → (x = 1 ∧ o = oNo 1 st none) ∨ (x = 4 ∧ o = oNo 4 st none) → ∀ k b, E1 X EV (d + 17) 10 0 0 none false cX10_lineRead Q 50 [.ref m, k, b] [] 0 0 hm' hs := by
    intro hm' x hM' s' ho k b
    have e9 : (upd (upd (upd u 8 (nI st)) 9 x) 10 (nI st)) 9 = x := rfl
    simp only [r_al0 dX10_lineRead_50, r_getf dX10_lineRead_51 F10_76, r_if_eqB (tgt := 58) dX10_lineRead_54 rfl, r_vret dX10_lineRead_57 (Nat.zero_le _) (Nat.zero_le _), List.cons_append, List.nil_append, Nat.reduceAdd, Option.toList, g10_9, z0, hM'.r, rd_own hM'.r, hM'.r, rd_own hM'.r, e9]
    refine ⟨fun z => ?_, fun _ => ?_⟩
    · rcases ho with ⟨a, _⟩ | ⟨a, _⟩ <;> rw [z] at a <;> exact absurd a (by decide)
    · refine hQ hm' _ A hM' ⟨⟨rfl, rfl, rfl⟩, rfl, rfl, rfl, rfl, rfl, rfl⟩ ?_ (fun q1 S1 z => ?_) s'
      · rcases ho with ⟨a, b⟩ | ⟨a, b⟩ <;> rw [b] <;> exact ⟨a, rfl, rfl, rfl⟩
      · rcases ho with ⟨a, b⟩ | ⟨a, b⟩ <;> rw [b] at z <;> exact absurd z (by intro y; cases y)
  have h21 : ∀ hm', MO hm' m (upd u 8 (nI st)) A R → sm m (m + 16) hm hm' → o = oNo 1 st none → ∀ k b, E1 X EV (d + 17) 10 0 0 none false cX10_lineRead Q 21 [.ref m, k, b] [] 0 0 hm' hs := by
    intro hm' hM' s' ho k b
    simp only [r_al0 dX10_lineRead_21, r_iconst dX10_lineRead_22 ki1, r_al0 dX10_lineRead_23, r_getf dX10_lineRead_24 F10_70, List.cons_append, List.nil_append, Nat.reduceAdd, Option.toList, g10_8, z0, hM'.r, rd_own hM'.r, hM'.r, rd_own hM'.r]
    refine r_iv3 dX10_lineRead_27 M10_116 Y161 O161 (Nat.le_of_ble_eq_true rfl) (rcv_own hM'.r) (Nat.le_refl _) (Nat.le_refl _) ?_
    refine m_fails hM' (fun z => absurd q9 z) (fun _ hm2 hM2 s2 => ?_)
    simp only [r_gotoB (tgt := 50) dX10_lineRead_30 rfl, List.cons_append, List.nil_append, Nat.reduceAdd, Option.toList, z0]
    try simp (disch := omega) only [E2, nI_1, nI_add, nI_leI, nI_ltI, nI_eq, nI_clamp]
    exact h50 hm2 1 hM2 (s'.trans s2) (.inl ⟨rfl, ho⟩) k b
  refine c_of (ls2 := [.ref m, .null, .null]) Y168 (Nat.le_of_ble_eq_true rfl) rfl I168 ?_
  simp only [r_al0 dX10_lineRead_0, List.cons_append, List.nil_append, Nat.reduceAdd, Option.toList, z0]
  refine r_iv1 dX10_lineRead_1 M10_123 Y165 O165 (Nat.le_of_ble_eq_true rfl) (rcv_own hM.r) (Nat.le_refl _) (Nat.le_refl _) ?_
  refine m_wordHere hM hB hK hlo hBm e7 he e8 hq h9 (fun st' hm1 hst' hno hM1 s1 => ?_) (fun st' z' hm1 hst' hlt hsm hz' hM1 s1 => ?_)
  · have := nxq_un hst hst'
    subst this
    rcases h with ⟨hn, ho⟩ | ⟨a, b, -⟩
    · skip
      simp only [r_is1 dX10_lineRead_4, r_il1 dX10_lineRead_5, r_iconst dX10_lineRead_6 kim1, r_ic_eqB (tgt := 21) dX10_lineRead_7 rfl, r_il1 dX10_lineRead_10, r_if_neB (tgt := 33) dX10_lineRead_11 rfl, r_al0 dX10_lineRead_14, r_getf dX10_lineRead_15 F10_126, r_if_leB (tgt := 33) dX10_lineRead_18 rfl, List.cons_append, List.nil_append, Nat.reduceAdd, Option.toList, cat_f, cat_i, cat_n, cat_r, eq_self, g10_12, true_and, z0, hM1.r, rd_own hM1.r, hM1.r, rd_own hM1.r]
      refine ⟨fun _ => ?_, fun z => absurd trivial z⟩
      try simp (disch := omega) only [E2, nI_1, nI_add, nI_leI, nI_ltI, nI_eq, nI_clamp]
      exact h21 hm1 hM1 s1 ho _ _
    · exact absurd ⟨a, b⟩ hno
  · have := nxq_un hst hst'
    subst this
    rcases h with ⟨hn, ho⟩ | ⟨_, _, z, hz, h⟩
    · exact absurd ⟨hlt, hsm⟩ hn
    have := nxq_un hz hz'
    obtain rfl : z = z' := by omega
    refine ⟨fun k hk hky => ?_, fun hno => ?_⟩
    · rcases h with ⟨hn, -⟩ | ⟨k', hk', hky', h⟩
      · exact absurd hky (hn k hk)
      obtain rfl : k = k' := isKey_un hk hk' hky hky'
      have nk : ¬ nI k = -1 := fun z => by
        have := congrArg Int32.toInt z
        rw [nI_toInt (by omega)] at this
        have e1 : (-1 : Int32).toInt = -1 := by decide
        omega
      have k0 : (nI k = 0) = (k = 0) := propext (nI_eq (b := 0) (by omega) (by omega))
      have l0 : (nI lm ≤ 0) = (lm ≤ 0) := propext (nI_leI (b := 0) (by omega) (by omega))
      have s58 : ∀ hm', MO hm' m (upd u 8 (nI st)) A R → sm m (m + 16) hm hm' → (∃ o1, LB (A 5) e st (st + z) (A 0) k o1 ∧
    ((∃ f at' rg, 1 ≤ f ∧ f ≤ 6 ∧ o1 = oNo f at' rg ∧ o = o1) ∨ ∃ q1 S1 st1, o1 = oOk q1 S1 ∧ q1 ≤ e ∧ nxq (A 5) e (fun x => x = 32) q1 st1 ∧ ((¬ (st1 < e ∧ A 5 st1 = 59) ∧ o = oNo 1 st1 none) ∨ (st1 < e ∧ A 5 st1 = 59 ∧ o = oOk (st1 + 1) S1)))) → ∀ b, E1 X EV (d + 17) 10 0 0 none false cX10_lineRead Q 50 [.ref m, .int (nI k), b] [] 0 0 hm' hs := by
        intro hm' hM' s' ⟨o1, hb, h⟩ b
        simp only [r_al0 dX10_lineRead_50, r_getf dX10_lineRead_51 F10_76, r_if_eq (tgt := 58) dX10_lineRead_54 rfl, r_vret dX10_lineRead_57 (Nat.zero_le _) (Nat.zero_le _), r_al0 dX10_lineRead_58, r_getf dX10_lineRead_59 F10_70, r_is2 dX10_lineRead_62, r_al0 dX10_lineRead_63, r_dup_i dX10_lineRead_64, r_dup_r dX10_lineRead_64, r_getf dX10_lineRead_65 F10_70, r_al0 dX10_lineRead_68, List.cons_append, List.nil_append, Nat.reduceAdd, Option.toList, cat_f, cat_i, cat_n, cat_r, eq_self, g10_8, g10_9, true_and, z0, hM'.r, rd_own hM'.r, hM'.r, rd_own hM'.r, q9, q8]
        refine ⟨fun _ => ?_, fun z => absurd trivial z⟩
        refine r_iv1 dX10_lineRead_69 M10_99 Y164 O164 (Nat.le_of_ble_eq_true rfl) (rcv_own hM'.r) (Nat.le_refl _) (Nat.le_refl _) ?_
        refine m_lettersHere hM' q7 he q8 hse (fun z2 hz2 => ?_)
        have := nxq_un hz hz2
        obtain rfl : z = z2 := by omega
        simp (disch := first | omega | (simp only [List.length_cons, List.length_nil]; omega)) only [r_iadd dX10_lineRead_72, r_putf dX10_lineRead_73 F10_70, r_al0 dX10_lineRead_76, r_il1 dX10_lineRead_77, r_il2 dX10_lineRead_78, List.cons_append, List.nil_append, Nat.reduceAdd, Option.toList, fit_i, ft10_8, p10_8, pk_un, pk_us, rd_up_eq, rd_up_ne, true_and, up_eq, up_ne, up_up, z0, hM'.r, rd_own hM'.r, hM'.r, rd_own hM'.r, nI_add]
        have eu : upd (upd u 8 (nI st)) 8 (nI (st + z)) = upd u 8 (nI (st + z)) := by funext i; unfold upd; split <;> rfl
        have hM2 := hM'.o (upd u 8 (nI (st + z)))
        rw [eu]
        have hze := hz.2.1
        have s2 : sm m (m + 16) hm (im_up hm' m (Sum.inr (10, fs_MO m (upd u 8 (nI (st + z)))))) := s'.up (by omega)
        refine r_iv3 dX10_lineRead_79 M10_132 Y169 O169 (Nat.le_of_ble_eq_true rfl) (rcv_own hM2.r) (Nat.le_refl _) (Nat.le_refl _) ?_
        refine m_behind hM2 hB ((pk_un (by decide)).trans e7) he pk_us hze ((pk_un (by decide)).trans h9) hb (fun hm3 u3 A3 hM3 k3 r3 s3 => ?_)
        have s3 := s2.trans s3
        have k3' : KL u u3 A A3 := ⟨⟨k3.1.1, k3.1.2.1, k3.1.2.2.1, k3.1.2.2.2⟩, k3.2⟩
        have w12 : u3 12 = nI lm := k3'.1.2.2.2.trans e12
        have w7 : u3 7 = nI e := k3'.1.2.2.1.trans e7
        have a5 : A3 5 = A 5 := k3'.2.2.2.1
        rcases h with ⟨f, at', rg, hf1, hf6, rfl, rfl⟩ | ⟨q1, S1, st1, rfl, hq1, hst1, h⟩
        · obtain ⟨r9, r10, rk⟩ := r3
          have f0 : ¬ nI f = 0 := fun z => by have := (nI_eq (b := 0) (by omega) (by omega)).mp z; omega
          simp (disch := first | omega | (simp only [List.length_cons, List.length_nil]; omega)) only [r_al0 dX10_lineRead_82, r_getf dX10_lineRead_83 F10_76, r_if_ne (tgt := 107) dX10_lineRead_86 rfl, r_al0 dX10_lineRead_89, r_al0 dX10_lineRead_107, r_dup_i dX10_lineRead_108, r_dup_r dX10_lineRead_108, r_getf dX10_lineRead_109 F10_70, r_iconst dX10_lineRead_112 ki1, r_iadd dX10_lineRead_113, r_putf dX10_lineRead_114 F10_70, r_al0 dX10_lineRead_117, r_dup_i dX10_lineRead_118, r_dup_r dX10_lineRead_118, r_getf dX10_lineRead_119 F10_126, r_iconst dX10_lineRead_122 ki1, r_iadd dX10_lineRead_123, r_putf dX10_lineRead_124 F10_126, r_vret dX10_lineRead_127 (Nat.zero_le _) (Nat.zero_le _), List.cons_append, List.nil_append, Nat.reduceAdd, Option.toList, fit_i, ft10_12, ft10_8, g10_12, g10_8, g10_9, p10_12, p10_8, pk_un, pk_us, rd_up_eq, rd_up_ne, true_and, up_eq, up_ne, up_up, z0, hM3.r, rd_own hM3.r, hM3.r, rd_own hM3.r, r9]
          refine ⟨fun _ => ?_, fun z => absurd f0 z⟩
          exact hQ _ _ A3 (hM3.o _) k3'.kt ⟨r9, r10, by cases rg <;> exact rk⟩ (fun q1 S1 y => absurd y (by intro y; cases y)) (s3.up (by omega))
        · obtain ⟨r9, r10, r8, r0, rk⟩ := r3
          simp only [r_al0 dX10_lineRead_82, r_getf dX10_lineRead_83 F10_76, r_if_neB (tgt := 107) dX10_lineRead_86 rfl, r_al0 dX10_lineRead_89, List.cons_append, List.nil_append, Nat.reduceAdd, Option.toList, g10_9, z0, hM3.r, rd_own hM3.r, hM3.r, rd_own hM3.r, r9]
          refine ⟨fun z => absurd trivial z, fun _ => ?_⟩
          refine r_iv1 dX10_lineRead_90 M10_95 Y160 O160 (Nat.le_of_ble_eq_true rfl) (rcv_own hM3.r) (Nat.le_refl _) (Nat.le_refl _) ?_
          refine m_peek hM3 w7 he r8 hq1 (fun st1' hm4 hst1' hM4 s4 => ?_)
          rw [a5] at hst1'
          have := nxq_un hst1 hst1'
          subst this
          have s4 := s3.trans s4
          have v59 : (if st1 < e then A3 5 st1 &&& 255 else -1) = 59 ↔ (st1 < e ∧ A 5 st1 = 59) := by
            by_cases hl : st1 < e
            · rw [if_pos hl, a5]
              obtain ⟨b, hb, eb⟩ := hB st1 hl
              exact ⟨fun z => ⟨hl, ((by_dg hb eb).2.2.1 59 (by omega)).mp z⟩, fun z => ((by_dg hb eb).2.2.1 59 (by omega)).mpr z.2⟩
            · rw [if_neg hl]; exact ⟨fun z => absurd z (by decide), fun z => absurd z.1 hl⟩
          have h107 : ∀ hm' u', MO hm' m u' A3 R → sm m (m + 16) hm hm' → (∀ hm'', MO hm'' m (upd (upd u' 8 (u' 8 + 1)) 12 (u' 12 + 1)) A3 R → sm m (m + 16) hm hm'' → Q none hm'' hs) → ∀ y z, E1 X EV (d + 17) 10 0 0 none false cX10_lineRead Q 107 [.ref m, y, z] [] 0 0 hm' hs := by
            intro hm' u' hM' s' hq y z
            simp (disch := first | omega | (simp only [List.length_cons, List.length_nil]; omega)) only [r_al0 dX10_lineRead_107, r_dup_i dX10_lineRead_108, r_dup_r dX10_lineRead_108, r_getf dX10_lineRead_109 F10_70, r_iconst dX10_lineRead_112 ki1, r_iadd dX10_lineRead_113, r_putf dX10_lineRead_114 F10_70, r_al0 dX10_lineRead_117, r_dup_i dX10_lineRead_118, r_dup_r dX10_lineRead_118, r_getf dX10_lineRead_119 F10_126, r_iconst dX10_lineRead_122 ki1, r_iadd dX10_lineRead_123, r_putf dX10_lineRead_124 F10_126, r_vret dX10_lineRead_127 (Nat.zero_le _) (Nat.zero_le _), List.cons_append, List.nil_append, Nat.reduceAdd, Option.toList, fit_i, ft10_12, ft10_8, g10_12, g10_8, p10_12, p10_8, pk_un, pk_us, rd_up_eq, rd_up_ne, true_and, up_eq, up_ne, up_up, z0, hM'.r, rd_own hM'.r, hM'.r, rd_own hM'.r]
            exact hq _ (hM'.o _) (s'.up (by omega))
          have w8 : (upd u3 8 (nI st1)) 8 = nI st1 := pk_us
          rcases h with ⟨hn, ho⟩ | ⟨hl, h59, ho⟩
          · simp only [r_bipush dX10_lineRead_93 kb59, r_ic_eqB (tgt := 107) dX10_lineRead_95 rfl, r_al0 dX10_lineRead_98, r_iconst dX10_lineRead_99 ki1, r_al0 dX10_lineRead_100, r_getf dX10_lineRead_101 F10_70, List.cons_append, List.nil_append, Nat.reduceAdd, Option.toList, g10_8, z0, hM4.r, rd_own hM4.r, hM4.r, rd_own hM4.r, w8]
            refine ⟨fun z => absurd (v59.mp z) hn, fun _ => ?_⟩
            refine r_iv3 dX10_lineRead_104 M10_116 Y161 O161 (Nat.le_of_ble_eq_true rfl) (rcv_own hM4.r) (Nat.le_refl _) (Nat.le_refl _) ?_
            refine m_fails hM4 (fun z => absurd r9 z) (fun _ hm5 hM5 s5 => ?_)
            refine h107 hm5 _ hM5 (s4.trans s5) (fun hm6 hM6 s6 => ?_) _ _
            exact hQ hm6 _ A3 hM6 k3'.kt (by rw [ho]; exact ⟨rfl, rfl, rk⟩) (fun q1 S1 y => absurd (ho.symm.trans y) (by intro y; cases y)) s6
          · simp only [r_bipush dX10_lineRead_93 kb59, r_ic_eqB (tgt := 107) dX10_lineRead_95 rfl, r_al0 dX10_lineRead_98, r_iconst dX10_lineRead_99 ki1, r_al0 dX10_lineRead_100, r_getf dX10_lineRead_101 F10_70, List.cons_append, List.nil_append, Nat.reduceAdd, Option.toList, g10_8, z0, hM4.r, rd_own hM4.r, hM4.r, rd_own hM4.r, w8]
            refine ⟨fun _ => ?_, fun z => absurd (v59.mpr ⟨hl, h59⟩) z⟩
            try simp (disch := omega) only [E2, nI_1, nI_add, nI_leI, nI_ltI, nI_eq, nI_clamp]
            refine h107 hm4 _ hM4 s4 (fun hm6 hM6 s6 => ?_) _ _
            exact hQ hm6 _ A3 hM6 k3'.kt (by rw [ho]; exact ⟨r9, r10, nI_add st1 1, r0, rk⟩) (fun q1 S1 y => show u3 12 + 1 = _ by rw [w12]; exact nI_add lm 1) s6
      have h33 : ¬ (k = 0 ∧ 0 < lm) → ∀ b, E1 X EV (d + 17) 10 0 0 none false cX10_lineRead Q 33 [.ref m, .int (nI k), b] [] 0 0 hm1 hs := by
        intro hp b
        rcases h with ⟨a1, a2, -⟩ | ⟨-, h⟩
        · exact absurd ⟨a1, a2⟩ hp
        simp only [r_al0 dX10_lineRead_33, r_il1 dX10_lineRead_34, List.cons_append, List.nil_append, Nat.reduceAdd, Option.toList, z0]
        refine r_iv2 dX10_lineRead_35 M10_129 Y167 O167 (Nat.le_of_ble_eq_true rfl) (rcv_own hM1.r) (Nat.le_refl _) (Nat.le_refl _) ?_
        rcases h with ⟨hf, ho⟩ | ⟨hf, h⟩
        · refine m_isFull hM1 hk (fun _ => ?_) (fun z => absurd hf z)
          simp only [r_if_eqB (tgt := 50) dX10_lineRead_38 rfl, r_al0 dX10_lineRead_41, r_iconst dX10_lineRead_42 ki4, r_al0 dX10_lineRead_43, r_getf dX10_lineRead_44 F10_70, List.cons_append, List.nil_append, Nat.reduceAdd, Option.toList, g10_8, z0, hM1.r, rd_own hM1.r, hM1.r, rd_own hM1.r]
          refine ⟨fun z => absurd z (by decide), fun _ => ?_⟩
          refine r_iv3 dX10_lineRead_47 M10_116 Y161 O161 (Nat.le_of_ble_eq_true rfl) (rcv_own hM1.r) (Nat.le_refl _) (Nat.le_refl _) ?_
          refine m_fails hM1 (fun z => absurd q9 z) (fun _ hm2 hM2 s2 => ?_)
          exact h50 hm2 4 hM2 (s1.trans s2) (.inr ⟨rfl, ho⟩) _ _
        · refine m_isFull hM1 hk (fun z => absurd z hf) (fun _ => ?_)
          simp only [r_if_eqB (tgt := 50) dX10_lineRead_38 rfl, r_al0 dX10_lineRead_41, r_iconst dX10_lineRead_42 ki4, r_al0 dX10_lineRead_43, r_getf dX10_lineRead_44 F10_70, List.cons_append, List.nil_append, Nat.reduceAdd, Option.toList, g10_8, z0, hM1.r, rd_own hM1.r, hM1.r, rd_own hM1.r]
          refine ⟨fun _ => ?_, fun z => absurd trivial z⟩
          try simp (disch := omega) only [E2, nI_1, nI_add, nI_leI, nI_ltI, nI_eq, nI_clamp]
          exact s58 hm1 hM1 s1 h _
      simp only [r_is1 dX10_lineRead_4, r_il1 dX10_lineRead_5, r_iconst dX10_lineRead_6 kim1, r_ic_eqB (tgt := 21) dX10_lineRead_7 rfl, r_il1 dX10_lineRead_10, r_if_neB (tgt := 33) dX10_lineRead_11 rfl, r_al0 dX10_lineRead_14, r_getf dX10_lineRead_15 F10_126, r_if_leB (tgt := 33) dX10_lineRead_18 rfl, List.cons_append, List.nil_append, Nat.reduceAdd, Option.toList, cat_f, cat_i, cat_n, cat_r, eq_self, g10_12, true_and, z0, hM1.r, rd_own hM1.r, hM1.r, rd_own hM1.r, nk, k0, l0, q12]
      refine ⟨fun z => z.elim, fun _ => ⟨fun hk0 => ?_, fun hk0 => ⟨fun hl0 => ?_, fun hl0 => ?_⟩⟩⟩
      · try simp (disch := omega) only [E2, nI_1, nI_add, nI_leI, nI_ltI, nI_eq, nI_clamp]
        exact h33 (fun z => hk0 z.1) _
      · try simp (disch := omega) only [E2, nI_1, nI_add, nI_leI, nI_ltI, nI_eq, nI_clamp]
        exact h33 (fun z => by omega) _
      · refine h21 hm1 hM1 s1 ?_ _ _
        rcases h with ⟨a1, a2, ho⟩ | ⟨a1, h⟩
        · exact ho
        · exact absurd ⟨Classical.not_not.mp hk0, by omega⟩ a1
    · rcases h with ⟨_, ho⟩ | ⟨k', hk', hky', h⟩
      · skip
        simp only [r_is1 dX10_lineRead_4, r_il1 dX10_lineRead_5, r_iconst dX10_lineRead_6 kim1, r_ic_eqB (tgt := 21) dX10_lineRead_7 rfl, r_il1 dX10_lineRead_10, r_if_neB (tgt := 33) dX10_lineRead_11 rfl, r_al0 dX10_lineRead_14, r_getf dX10_lineRead_15 F10_126, r_if_leB (tgt := 33) dX10_lineRead_18 rfl, List.cons_append, List.nil_append, Nat.reduceAdd, Option.toList, cat_f, cat_i, cat_n, cat_r, eq_self, g10_12, true_and, z0, hM1.r, rd_own hM1.r, hM1.r, rd_own hM1.r]
        refine ⟨fun _ => ?_, fun z => absurd trivial z⟩
        try simp (disch := omega) only [E2, nI_1, nI_add, nI_leI, nI_ltI, nI_eq, nI_clamp]
        exact h21 hm1 hM1 s1 ho _ _
      · exact absurd hky' (hno k' hk')
end ML
