/-! ===== feeding ===== -/
/-- the x-th byte of five whole numbers -/
def fdv (a b c e f : Int32) (x : Nat) : Int32 := (if x < 4 then a else if x < 8 then b else if x < 12 then c else if x < 16 then e else f) >>> (nI (24 - 8 * (x % 4)) &&& 31)
theorem fd24 : ∀ k, k < 20 → (24 : Int32) - 8 * (nI k - nI k / 4 * 4) = nI (24 - 8 * (k % 4)) := by decide +kernel
theorem nar8 (x : Int32) : vp_nar .byte x.toInt8.toInt32 = x.toInt8.toInt32 := by
  show x.toInt8.toInt32.toInt8.toInt32 = _
  rw [Int8.toInt8_toInt32]
theorem b255 (x : Int32) : ∃ b, b < 256 ∧ x &&& 255 = nI b ∧ x.toInt8 = (nI b).toInt8 := by
  refine ⟨x.toBitVec.toNat % 256, Nat.mod_lt _ (by omega), ?_, ?_⟩
  · apply Int32.toBitVec_inj.mp
    apply BitVec.eq_of_toNat_eq
    show (x.toBitVec &&& 255#32).toNat = (BitVec.ofNat 32 (x.toBitVec.toNat % 256)).toNat
    rw [BitVec.toNat_and, show (255#32).toNat = 2 ^ 8 - 1 from rfl, Nat.and_two_pow_sub_one_eq_mod, BitVec.toNat_ofNat]
    omega
  · apply Int8.toBitVec_inj.mp
    apply BitVec.eq_of_toNat_eq
    rw [Int32.toBitVec_toInt8, Int32.toBitVec_toInt8, BitVec.signExtend_eq_setWidth_of_le _ (by omega), BitVec.signExtend_eq_setWidth_of_le _ (by omega)]
    show (x.toBitVec.setWidth 8).toNat = ((BitVec.ofNat 32 (x.toBitVec.toNat % 256)).setWidth 8).toNat
    rw [BitVec.toNat_setWidth, BitVec.toNat_setWidth, BitVec.toNat_ofNat]
    omega
section M9
variable {X : HM} {EV : Nat → Value} {d : Nat} {hm : HM} {hs : Nat} {Q : QT} {m n : Nat} {u : Nat → Int32} {A : Nat → Nat → Int32} {R : Nat → Int64}
theorem m_feed {a b c e f : Int32} {z : Nat} (hM : MO hm m u A R) (ez : u 6 = nI z) (hz : z ≤ 900)
    (h0 : ¬ z + 20 ≤ 900 → ∀ hm', MO hm' m (upd u 4 0) A R → sm m (m + 16) hm hm' → Q (some (.int (-3))) hm' hs)
    (hQ : z + 20 ≤ 900 → ∀ hm' G, MO hm' m (upd (upd u 4 0) 6 (nI (z + 20))) (va_up A 5 G) R → (∀ q, G q = if z ≤ q ∧ q < z + 20 then (fdv a b c e f (q - z)).toInt8.toInt32 else A 5 q) → sm m (m + 16) hm hm' → Q (some (.int (nI (z + 20)))) hm' hs) : CC X EV (d + 1) 159 [.ref m, .int a, .int b, .int c, .int e, .int f] hm hs Q := by
  have hM1 := hM.o (upd u 4 0)
  have s1 : sm m (m + 16) hm (im_up hm m (.inr (10, fs_MO m (upd u 4 0)))) := sm.rf.up (by omega)
  refine c_of (ls2 := [.ref m, .int a, .int b, .int c, .int e, .int f, .null, .null]) Y159 (Nat.le_of_ble_eq_true rfl) rfl I159 ?_
  simp (disch := first | omega | (simp only [List.length_cons, List.length_nil]; omega)) only [r_al0 dX10_feed_0, r_iconst dX10_feed_1 ki0, r_putf dX10_feed_2 F10_1, r_al0 dX10_feed_5, r_getf dX10_feed_6 F10_67, r_bipush dX10_feed_9 kb20, r_iadd dX10_feed_11, r_sipush dX10_feed_12 ks900, r_ic_le (tgt := 21) dX10_feed_15 rfl, r_bipush dX10_feed_18 kbm3, r_iret dX10_feed_20 (Nat.zero_le _) (Nat.zero_le _), r_iconst dX10_feed_21 ki0, r_is6 dX10_feed_22, List.cons_append, List.nil_append, Nat.reduceAdd, Option.toList, cat_f, cat_i, cat_n, cat_r, eq_self, fit_i, ft10_4, g10_6, p10_4, pk_un, pk_us, rd_up_eq, rd_up_ne, true_and, up_eq, up_ne, up_up, z0, hM.r, rd_own hM.r, hM.r, rd_own hM.r]
  generalize im_up hm m (.inr (10, fs_MO m (upd u 4 0))) = hm1 at hM1 s1 ⊢
  simp only [r_al0 dX10_feed_5, r_getf dX10_feed_6 F10_67, r_bipush dX10_feed_9 kb20, r_iadd dX10_feed_11, r_sipush dX10_feed_12 ks900, r_ic_le (tgt := 21) dX10_feed_15 rfl, r_bipush dX10_feed_18 kbm3, r_iret dX10_feed_20 (Nat.zero_le _) (Nat.zero_le _), r_iconst dX10_feed_21 ki0, r_is6 dX10_feed_22, List.cons_append, List.nil_append, Nat.reduceAdd, Option.toList, cat_f, cat_i, cat_n, cat_r, eq_self, g10_6, true_and, z0, hM1.r, rd_own hM1.r, hM1.r, rd_own hM1.r, ez, show (20 : Int32) = nI 20 from rfl, show (900 : Int32) = nI 900 from rfl]
  simp (disch := omega) only [E2, nI_1, nI_add, nI_leI, nI_ltI, nI_eq, nI_clamp]
  refine ⟨fun hle => ?_, fun hno => h0 (by omega) _ hM1 s1⟩
  suffices H : ∀ k, k ≤ 20 → ∀ hm' G y, MO hm' m (upd (upd u 4 0) 6 (nI (z + k))) (va_up A 5 G) R → (∀ q, G q = if z ≤ q ∧ q < z + k then (fdv a b c e f (q - z)).toInt8.toInt32 else A 5 q) → sm m (m + 16) hm hm' → E1 X EV d 10 0 0 (some .int) false cX10_feed Q 24 [.ref m, .int a, .int b, .int c, .int e, .int f, .int (nI k), y] [] 0 0 hm' hs by
    have e6 : upd (upd u 4 0) 6 (nI (z + 0)) = upd u 4 0 := by
      funext x
      by_cases ex : x = 6
      · subst ex; rw [pk_us]; exact ez.symm
      · rw [pk_un ex]
    exact H 0 (by omega) hm1 (A 5) _ (by rw [e6, va_self]; exact hM1) (fun q => by rw [if_neg (by omega)]) s1
  refine up_loop 20 _ ?_ ?_
  · intro hm' G y hM' hG s'
    simp only [r_il6 dX10_feed_24, r_bipush dX10_feed_26 kb20, r_ic_ge (tgt := 118) dX10_feed_28 rfl, r_il6 dX10_feed_31, r_iconst dX10_feed_33 ki4, r_ic_ge (tgt := 41) dX10_feed_34 rfl, r_il1 dX10_feed_37, r_gotoB (tgt := 77) dX10_feed_38 rfl, r_il6 dX10_feed_41, r_bipush dX10_feed_43 kb8, r_ic_ge (tgt := 52) dX10_feed_45 rfl, r_il2 dX10_feed_48, r_gotoB (tgt := 77) dX10_feed_49 rfl, r_il6 dX10_feed_52, r_bipush dX10_feed_54 kb12, r_ic_ge (tgt := 63) dX10_feed_56 rfl, r_il3 dX10_feed_59, r_gotoB (tgt := 77) dX10_feed_60 rfl, r_il6 dX10_feed_63, r_bipush dX10_feed_65 kb16, r_ic_ge (tgt := 75) dX10_feed_67 rfl, r_il4 dX10_feed_70, r_gotoB (tgt := 77) dX10_feed_72 rfl, r_il5 dX10_feed_75, r_al0 dX10_feed_118, r_getf dX10_feed_119 F10_67, r_iret dX10_feed_122 (Nat.zero_le _) (Nat.zero_le _), List.cons_append, List.nil_append, Nat.reduceAdd, Option.toList, g10_6, z0, hM'.r, rd_own hM'.r, hM'.r, rd_own hM'.r, pk_us, show (20 : Int32) = nI 20 from rfl]
    exact ⟨fun _ => hQ hle hm' G hM' hG s', fun h => absurd (Int32.le_refl _) h⟩
  · intro k hk ih hm' G y hM' hG s'
    have hin := vp_in_nI (show z + k < 900 by omega) (by omega)
    have h77 : ∀ x, x = (if k < 4 then a else if k < 8 then b else if k < 12 then c else if k < 16 then e else f) → E1 X EV d 10 0 0 (some .int) false cX10_feed Q 77 [.ref m, .int a, .int b, .int c, .int e, .int f, .int (nI k), y] [.int x] 0 0 hm' hs := by
      intro x ex
      have e24 : (24 : Int32) - 8 * (nI k - nI k / 4 * 4) = nI (24 - 8 * (k % 4)) := fd24 k hk
      have ev : (x >>> (nI (24 - 8 * (k % 4)) &&& 31)) = fdv a b c e f k := by unfold fdv; rw [← ex]
      simp (disch := first | omega | (simp only [List.length_cons, List.length_nil]; omega)) only [r_is7 dX10_feed_77, r_al0 dX10_feed_79, r_getf dX10_feed_80 F10_23, r_al0 dX10_feed_83, r_getf dX10_feed_84 F10_67, r_il7 dX10_feed_87, r_bipush dX10_feed_89 kb24, r_bipush dX10_feed_91 kb8, r_il6 dX10_feed_93, r_iconst dX10_feed_95 ki4, r_irem dX10_feed_96, r_imul dX10_feed_97, r_isub dX10_feed_98, r_ishr dX10_feed_99, r_i2b dX10_feed_100, r_bast dX10_feed_101, r_al0 dX10_feed_102, r_dup_i dX10_feed_103, r_dup_r dX10_feed_103, r_getf dX10_feed_104 F10_67, r_iconst dX10_feed_107 ki1, r_iadd dX10_feed_108, r_putf dX10_feed_109 F10_67, r_ii6 dX10_feed_112 kn1, r_gotoB (tgt := 24) dX10_feed_115 rfl, List.cons_append, List.nil_append, Nat.reduceAdd, Option.toList, cat_f, cat_i, cat_n, cat_r, eq_self, fit_i, ft10_6, g10_5, g10_6, p10_6, pk_un, pk_us, rd_up_eq, rd_up_ne, sB_ok, true_and, up_eq, up_ne, up_up, z0, hM'.r, rd_own hM'.r, hM'.r5, rd_own hM'.r5, pk_us, e24, ev, nar8, nI_clamp (show z + k < 2 ^ 31 by omega)]
      refine ⟨by decide, hin, ?_⟩
      have h4 := (hM'.w5 (upd ((va_up A 5 G) 5) (z + k) (fdv a b c e f k).toInt8.toInt32)).o (upd (upd (upd u 4 0) 6 (nI (z + k))) 6 (nI (z + k) + 1))
      rw [va_va, vu_eq, upd_upd, nI_1, show z + k + 1 = z + (k + 1) by omega] at h4
      rw [vu_eq, upd_upd, nI_1, nI_1, show z + k + 1 = z + (k + 1) by omega]
      refine ih _ _ _ h4 (fun q => ?_) ((s'.up (by omega)).up (by omega))
      by_cases hq : q = z + k
      · rw [hq, pk_us, if_pos (by omega), show z + k - z = k by omega]
      · rw [pk_un hq, hG q]
        by_cases h5 : z ≤ q ∧ q < z + k
        · rw [if_pos h5, if_pos (by omega)]
        · rw [if_neg h5, if_neg (by omega)]
    simp only [r_il6 dX10_feed_24, r_bipush dX10_feed_26 kb20, r_ic_ge (tgt := 118) dX10_feed_28 rfl, r_il6 dX10_feed_31, r_iconst dX10_feed_33 ki4, r_ic_ge (tgt := 41) dX10_feed_34 rfl, r_il1 dX10_feed_37, r_gotoB (tgt := 77) dX10_feed_38 rfl, r_il6 dX10_feed_41, r_bipush dX10_feed_43 kb8, r_ic_ge (tgt := 52) dX10_feed_45 rfl, r_il2 dX10_feed_48, r_gotoB (tgt := 77) dX10_feed_49 rfl, r_il6 dX10_feed_52, r_bipush dX10_feed_54 kb12, r_ic_ge (tgt := 63) dX10_feed_56 rfl, r_il3 dX10_feed_59, r_gotoB (tgt := 77) dX10_feed_60 rfl, r_il6 dX10_feed_63, r_bipush dX10_feed_65 kb16, r_ic_ge (tgt := 75) dX10_feed_67 rfl, r_il4 dX10_feed_70, r_gotoB (tgt := 77) dX10_feed_72 rfl, r_il5 dX10_feed_75, r_al0 dX10_feed_118, r_getf dX10_feed_119 F10_67, r_iret dX10_feed_122 (Nat.zero_le _) (Nat.zero_le _), List.cons_append, List.nil_append, Nat.reduceAdd, Option.toList, g10_6, z0, hM'.r, rd_own hM'.r, hM'.r, rd_own hM'.r, show (20 : Int32) = nI 20 from rfl, show (4 : Int32) = nI 4 from rfl, show (8 : Int32) = nI 8 from rfl, show (12 : Int32) = nI 12 from rfl, show (16 : Int32) = nI 16 from rfl]
    refine ⟨fun h => absurd ((nI_leI (by omega) (by omega)).mp h) (by omega), fun _ => ⟨fun h4 => ⟨fun h8 => ⟨fun h12 => ⟨fun h16 => ?_, fun h16 => ?_⟩, fun h12 => ?_⟩, fun h8 => ?_⟩, fun h4 => ?_⟩⟩ <;> (try rw [nI_leI (by omega) (by omega)] at h4) <;> (try rw [nI_leI (by omega) (by omega)] at h8) <;> (try rw [nI_leI (by omega) (by omega)] at h12) <;> (try rw [nI_leI (by omega) (by omega)] at h16)
    · exact h77 f (by rw [if_neg (by omega), if_neg (by omega), if_neg (by omega), if_neg (by omega)])
    · exact h77 e (by rw [if_neg (by omega), if_neg (by omega), if_neg (by omega), if_pos (by omega)])
    · exact h77 c (by rw [if_neg (by omega), if_neg (by omega), if_pos (by omega)])
    · exact h77 b (by rw [if_neg (by omega), if_pos (by omega)])
    · exact h77 a (by rw [if_pos (by omega)])
end M9
section S9
variable {X : HM} {EV : Nat → Value} {d : Nat} {B t m : Nat} {hm : HM} {hs : Nat}
theorem CPL.tp {V V' : Nat → Nat → Int32} {AA AA' : Nat → Nat → Nat → Int32} {R : Nat → Int64} {u u' : Nat → Int32} {A A' : Nat → Nat → Int32} {n w h nl np nw nr : Nat} {L : Nat → Nat} (c : CPL V AA R u A n w h L nl np nw nr) (e : ∀ j, j ≠ 4 → V' j = V j ∧ AA' j = AA j) (hu : u' 3 = u 3 ∧ u' 9 = u 9 ∧ u' 10 = u 10 ∧ u' 18 = u 18) (hA : ∀ s, s ≠ 5 → A' s = A s) (hr : ITP V' AA' u' A') : CPL V' AA' R u' A' n w h L nl np nw nr := by
  have e1 := fun j hj => (e j hj).1
  have f1 := fun j hj => (e j hj).2
  obtain ⟨b3, b9, b10, b18⟩ := hu
  have a0 := hA 0 (by decide)
  have a2 := hA 2 (by decide)
  obtain ⟨c1, c2, -, ⟨c4, c5⟩, ⟨y, y1, y2, y3, y4⟩, ⟨q, x, x1, x2, x3, x4, x5, x6, x7⟩, c8, c9⟩ := c
  refine ⟨by rw [a0, e1 0 (by decide), f1 0 (by decide)]; exact c1, by rw [a0, e1 2 (by decide), f1 2 (by decide)]; exact c2, hr, ⟨by rw [e1 13 (by decide)]; exact c4.trans b9.symm, by rw [e1 13 (by decide)]; exact c5.trans b10.symm⟩, ⟨y, y1, by rw [e1 5 (by decide)]; exact y2, b18.trans y3, fun i hi => by rw [f1 5 (by decide), hA 16 (by decide)]; exact y4 i hi⟩, ⟨q, x, x1, x2, by rw [e1 6 (by decide)]; exact x3, by rw [e1 6 (by decide)]; exact x4, b3.trans x5, fun i hi => ?_, fun i hi => ?_⟩, fun i hi => ?_, ?_⟩
  · rw [snp_ext a0 a2]; exact x6 i hi
  · rw [snp_ext a0 a2, snp_ext a0 a2, f1 6 (by decide)]; exact x7 i hi
  · rw [e1 (9 + i) (by omega), f1 (9 + i) (by omega), hA 24 (by decide), hA 25 (by decide), hA 26 (by decide)]; exact c8 i hi
  · unfold ICA
    rw [e1 0 (by decide), e1 7 (by decide), e1 8 (by decide), f1 0 (by decide), f1 2 (by decide), f1 7 (by decide), f1 8 (by decide)]; exact c9
theorem st_feed {a b e f k : Int32} (hI : INV B t m hm hs) : PR X EV (d + 19) 100 159 [.ref t, .int a, .int b, .int e, .int f, .int k] [.ref m, .int a, .int b, .int e, .int f, .int k] hm hs (KI32 B t m) := by
  obtain ⟨g, pa, pb, qa, qb, V, AA, R, u, A, RM, n, w, h, L, nl, np, nw, nr, hW, hM, c⟩ := hI
  obtain ⟨z, z9, e4, e6, hz⟩ : ITP V AA u A := c.2.2.1
  unfold PR
  refine c_feed hW e4 z9 (fun h0 => ⟨_, rfl, ?_⟩) (fun h0 hm1 A1 hW1 hA1 s1 => ⟨_, rfl, ?_⟩)
  · exact m_feed hM e6 z9 (fun _ hm2 hM2 s2 => ⟨rfl, ⟨_, rfl⟩, f0 g hW c hM2 kiU4 s2⟩) (fun h => absurd h h0)
  · refine m_feed (g.mo hM s1) e6 z9 (fun h => absurd h0 h) (fun _ hm2 G hM2 hG s2 => ⟨rfl, ⟨_, rfl⟩, (g.s1 s1).s2 s2, pa, pb, qa, qb, _, _, R, _, _, RM, n, w, h, L, nl, np, nw, nr, (g.s1 s1).tw hW1 s2, hM2, ?_⟩)
    refine c.tp (fun j hj => ⟨va_un hj, va_un hj⟩) ⟨rfl, rfl, rfl, rfl⟩ (fun s hs => va_un hs) ⟨z + 20, h0, by rw [va_us]; rfl, rfl, fun i hi => ?_⟩
    rw [va_us, hA1, va_us, hG]
    by_cases hin : z ≤ i ∧ i < z + 20
    · rw [if_pos hin, if_pos hin]
      have ef : ((if i < z + 4 then a else if i < z + 8 then b else if i < z + 12 then e else if i < z + 16 then f else k) >>> (nI (24 - 8 * ((i - z) % 4)) &&& 31)) = fdv a b e f k (i - z) := by
        unfold fdv
        congr 1
        by_cases h4 : i < z + 4
        · rw [if_pos h4, if_pos (show i - z < 4 by omega)]
        · rw [if_neg h4, if_neg (show ¬ i - z < 4 by omega)]
          by_cases h8 : i < z + 8
          · rw [if_pos h8, if_pos (show i - z < 8 by omega)]
          · rw [if_neg h8, if_neg (show ¬ i - z < 8 by omega)]
            by_cases h12 : i < z + 12
            · rw [if_pos h12, if_pos (show i - z < 12 by omega)]
            · rw [if_neg h12, if_neg (show ¬ i - z < 12 by omega)]
              by_cases h16 : i < z + 16
              · rw [if_pos h16, if_pos (show i - z < 16 by omega)]
              · rw [if_neg h16, if_neg (show ¬ i - z < 16 by omega)]
      rw [ef]
      obtain ⟨y, y1, y2, y3⟩ := b255 (fdv a b e f k (i - z))
      exact ⟨y, y1, y2, by rw [y3]⟩
    · rw [if_neg hin, if_neg hin]
      exact hz i (by omega)
end S9
