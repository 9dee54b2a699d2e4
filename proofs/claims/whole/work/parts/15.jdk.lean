section J1
variable {X : HM} {EV : Nat → Value} {d : Nat} {hm : HM} {hs : Nat} {Q : QT}
theorem c_bitCount {x : Int32} (hQ : Q (some (.int (pcnt x))) hm hs) : CC X EV (d + 1) 263 [.int x] hm hs Q := by
  refine c_of (ls2 := [.int x]) Y263 (Nat.le_of_ble_eq_true rfl) rfl I263 ?_
  simp only [r_il0 dJ6_bitCount_0f7a4_0, r_il0 dJ6_bitCount_0f7a4_1, r_iconst dJ6_bitCount_0f7a4_2 ki1, r_iushr dJ6_bitCount_0f7a4_3, r_ldcw dJ6_bitCount_0f7a4_4 K15_265, r_iand dJ6_bitCount_0f7a4_7, r_isub dJ6_bitCount_0f7a4_8, r_is0 dJ6_bitCount_0f7a4_9, r_il0 dJ6_bitCount_0f7a4_10, r_ldcw dJ6_bitCount_0f7a4_11 K15_266, r_iand dJ6_bitCount_0f7a4_14, r_il0 dJ6_bitCount_0f7a4_15, r_iconst dJ6_bitCount_0f7a4_16 ki2, r_iushr dJ6_bitCount_0f7a4_17, r_ldcw dJ6_bitCount_0f7a4_18 K15_266, r_iand dJ6_bitCount_0f7a4_21, r_iadd dJ6_bitCount_0f7a4_22, r_is0 dJ6_bitCount_0f7a4_23, r_il0 dJ6_bitCount_0f7a4_24, r_il0 dJ6_bitCount_0f7a4_25, r_iconst dJ6_bitCount_0f7a4_26 ki4, r_iushr dJ6_bitCount_0f7a4_27, r_iadd dJ6_bitCount_0f7a4_28, r_ldcw dJ6_bitCount_0f7a4_29 K15_267, r_iand dJ6_bitCount_0f7a4_32, r_is0 dJ6_bitCount_0f7a4_33, r_il0 dJ6_bitCount_0f7a4_34, r_il0 dJ6_bitCount_0f7a4_35, r_bipush dJ6_bitCount_0f7a4_36 kb8, r_iushr dJ6_bitCount_0f7a4_38, r_iadd dJ6_bitCount_0f7a4_39, r_is0 dJ6_bitCount_0f7a4_40, r_il0 dJ6_bitCount_0f7a4_41, r_il0 dJ6_bitCount_0f7a4_42, r_bipush dJ6_bitCount_0f7a4_43 kb16, r_iushr dJ6_bitCount_0f7a4_45, r_iadd dJ6_bitCount_0f7a4_46, r_is0 dJ6_bitCount_0f7a4_47, r_il0 dJ6_bitCount_0f7a4_48, r_bipush dJ6_bitCount_0f7a4_49 kb63, r_iand dJ6_bitCount_0f7a4_51, r_iret dJ6_bitCount_0f7a4_52 (Nat.zero_le _) (Nat.zero_le _), List.cons_append, List.nil_append, Nat.reduceAdd, Option.toList, cat_f, cat_i, cat_n, cat_r, eq_self, true_and, z0]
  exact hQ
theorem c_lowestOneBit {x : Int32} (hQ : Q (some (.int (lobit x))) hm hs) : CC X EV (d + 1) 261 [.int x] hm hs Q := by
  refine c_of (ls2 := [.int x]) Y261 (Nat.le_of_ble_eq_true rfl) rfl I261 ?_
  simp only [r_il0 dJ6_lowestOneBit_0f7a4_0, r_il0 dJ6_lowestOneBit_0f7a4_1, r_ineg dJ6_lowestOneBit_0f7a4_2, r_iand dJ6_lowestOneBit_0f7a4_3, r_iret dJ6_lowestOneBit_0f7a4_4 (Nat.zero_le _) (Nat.zero_le _), List.cons_append, List.nil_append, Nat.reduceAdd, Option.toList, z0]
  exact hQ
theorem c_ntz {x : Int32} (hQ : Q (some (.int (ntz x))) hm hs) : CC X EV (d + 1) 262 [.int x] hm hs Q := by
  refine c_of (ls2 := [.int x, .null]) Y262 (Nat.le_of_ble_eq_true rfl) rfl I262 ?_
  simp only [r_il0 dJ6_numberOfTrailingZeros_0f7a4_0, r_iconst dJ6_numberOfTrailingZeros_0f7a4_1 kim1, r_ixor dJ6_numberOfTrailingZeros_0f7a4_2, r_il0 dJ6_numberOfTrailingZeros_0f7a4_3, r_iconst dJ6_numberOfTrailingZeros_0f7a4_4 ki1, r_isub dJ6_numberOfTrailingZeros_0f7a4_5, r_iand dJ6_numberOfTrailingZeros_0f7a4_6, r_is0 dJ6_numberOfTrailingZeros_0f7a4_7, r_il0 dJ6_numberOfTrailingZeros_0f7a4_8, r_if_gt (tgt := 17) dJ6_numberOfTrailingZeros_0f7a4_9 rfl, r_il0 dJ6_numberOfTrailingZeros_0f7a4_12, r_bipush dJ6_numberOfTrailingZeros_0f7a4_13 kb32, r_iand dJ6_numberOfTrailingZeros_0f7a4_15, r_iret dJ6_numberOfTrailingZeros_0f7a4_16 (Nat.zero_le _) (Nat.zero_le _), r_iconst dJ6_numberOfTrailingZeros_0f7a4_17 ki1, r_is1 dJ6_numberOfTrailingZeros_0f7a4_18, r_il0 dJ6_numberOfTrailingZeros_0f7a4_19, r_ldcw dJ6_numberOfTrailingZeros_0f7a4_20 K15_264, r_ic_leB (tgt := 34) dJ6_numberOfTrailingZeros_0f7a4_23 rfl, r_ii1 dJ6_numberOfTrailingZeros_0f7a4_26 kn16, r_il0 dJ6_numberOfTrailingZeros_0f7a4_29, r_bipush dJ6_numberOfTrailingZeros_0f7a4_30 kb16, r_iushr dJ6_numberOfTrailingZeros_0f7a4_32, r_is0 dJ6_numberOfTrailingZeros_0f7a4_33, List.cons_append, List.nil_append, Nat.reduceAdd, Option.toList, cat_f, cat_i, cat_n, cat_r, eq_self, true_and, z0]
  refine ⟨fun h => ?_, fun h => ?_⟩
  · have e : ntz x = (nzs (nzs (nzs (nzs (nz1 x, 1) 65536 16 16) 256 8 8) 16 4 4) 4 2 2).2 + ush (nzs (nzs (nzs (nzs (nz1 x, 1) 65536 16 16) 256 8 8) 16 4 4) 4 2 2).1 1 := if_pos h
    rw [e] at hQ
    have s4 : ∀ q : Int32 × Int32, Q (some (.int (q.2 + ush q.1 1))) hm hs → E1 X EV d 15 0 0 (some .int) false cJ6_numberOfTrailingZeros_0f7a4 Q 74 [.int q.1, .int q.2] [] 0 0 hm hs := by
      intro q hq
      simp only [r_il1 dJ6_numberOfTrailingZeros_0f7a4_74, r_il0 dJ6_numberOfTrailingZeros_0f7a4_75, r_iconst dJ6_numberOfTrailingZeros_0f7a4_76 ki1, r_iushr dJ6_numberOfTrailingZeros_0f7a4_77, r_iadd dJ6_numberOfTrailingZeros_0f7a4_78, r_iret dJ6_numberOfTrailingZeros_0f7a4_79 (Nat.zero_le _) (Nat.zero_le _), List.cons_append, List.nil_append, Nat.reduceAdd, Option.toList, z0]
      exact hq
    have s3 : ∀ q : Int32 × Int32, E1 X EV d 15 0 0 (some .int) false cJ6_numberOfTrailingZeros_0f7a4 Q 74 [.int (nzs q 4 2 2).1, .int (nzs q 4 2 2).2] [] 0 0 hm hs → E1 X EV d 15 0 0 (some .int) false cJ6_numberOfTrailingZeros_0f7a4 Q 62 [.int q.1, .int q.2] [] 0 0 hm hs := by
      intro q hq
      simp only [r_il0 dJ6_numberOfTrailingZeros_0f7a4_62, r_iconst dJ6_numberOfTrailingZeros_0f7a4_63 ki4, r_ic_leB (tgt := 74) dJ6_numberOfTrailingZeros_0f7a4_64 rfl, r_ii1 dJ6_numberOfTrailingZeros_0f7a4_67 kn2, r_il0 dJ6_numberOfTrailingZeros_0f7a4_70, r_iconst dJ6_numberOfTrailingZeros_0f7a4_71 ki2, r_iushr dJ6_numberOfTrailingZeros_0f7a4_72, r_is0 dJ6_numberOfTrailingZeros_0f7a4_73, List.cons_append, List.nil_append, Nat.reduceAdd, Option.toList, cat_f, cat_i, cat_n, cat_r, eq_self, true_and, z0]
      refine ⟨fun h => ?_, fun h => ?_⟩
      · rw [show nzs q 4 2 2 = q from if_pos h] at hq
        exact hq
      · rw [show nzs q 4 2 2 = (ush q.1 2, q.2 + 2) from if_neg h] at hq
        exact hq
    have s2 : ∀ q : Int32 × Int32, E1 X EV d 15 0 0 (some .int) false cJ6_numberOfTrailingZeros_0f7a4 Q 62 [.int (nzs q 16 4 4).1, .int (nzs q 16 4 4).2] [] 0 0 hm hs → E1 X EV d 15 0 0 (some .int) false cJ6_numberOfTrailingZeros_0f7a4 Q 49 [.int q.1, .int q.2] [] 0 0 hm hs := by
      intro q hq
      simp only [r_il0 dJ6_numberOfTrailingZeros_0f7a4_49, r_bipush dJ6_numberOfTrailingZeros_0f7a4_50 kb16, r_ic_leB (tgt := 62) dJ6_numberOfTrailingZeros_0f7a4_52 rfl, r_ii1 dJ6_numberOfTrailingZeros_0f7a4_55 kn4, r_il0 dJ6_numberOfTrailingZeros_0f7a4_58, r_iconst dJ6_numberOfTrailingZeros_0f7a4_59 ki4, r_iushr dJ6_numberOfTrailingZeros_0f7a4_60, r_is0 dJ6_numberOfTrailingZeros_0f7a4_61, List.cons_append, List.nil_append, Nat.reduceAdd, Option.toList, cat_f, cat_i, cat_n, cat_r, eq_self, true_and, z0]
      refine ⟨fun h => ?_, fun h => ?_⟩
      · rw [show nzs q 16 4 4 = q from if_pos h] at hq
        exact hq
      · rw [show nzs q 16 4 4 = (ush q.1 4, q.2 + 4) from if_neg h] at hq
        exact hq
    have s1 : ∀ q : Int32 × Int32, E1 X EV d 15 0 0 (some .int) false cJ6_numberOfTrailingZeros_0f7a4 Q 49 [.int (nzs q 256 8 8).1, .int (nzs q 256 8 8).2] [] 0 0 hm hs → E1 X EV d 15 0 0 (some .int) false cJ6_numberOfTrailingZeros_0f7a4 Q 34 [.int q.1, .int q.2] [] 0 0 hm hs := by
      intro q hq
      simp only [r_il0 dJ6_numberOfTrailingZeros_0f7a4_34, r_sipush dJ6_numberOfTrailingZeros_0f7a4_35 ks256, r_ic_leB (tgt := 49) dJ6_numberOfTrailingZeros_0f7a4_38 rfl, r_ii1 dJ6_numberOfTrailingZeros_0f7a4_41 kn8, r_il0 dJ6_numberOfTrailingZeros_0f7a4_44, r_bipush dJ6_numberOfTrailingZeros_0f7a4_45 kb8, r_iushr dJ6_numberOfTrailingZeros_0f7a4_47, r_is0 dJ6_numberOfTrailingZeros_0f7a4_48, List.cons_append, List.nil_append, Nat.reduceAdd, Option.toList, cat_f, cat_i, cat_n, cat_r, eq_self, true_and, z0]
      refine ⟨fun h => ?_, fun h => ?_⟩
      · rw [show nzs q 256 8 8 = q from if_pos h] at hq
        exact hq
      · rw [show nzs q 256 8 8 = (ush q.1 8, q.2 + 8) from if_neg h] at hq
        exact hq
    have s0 := s1 _ (s2 _ (s3 _ (s4 _ hQ)))
    refine ⟨fun h => ?_, fun h => ?_⟩
    · rw [show nzs (nz1 x, 1) 65536 16 16 = (nz1 x, 1) from if_pos h] at s0
      exact s0
    · rw [show nzs (nz1 x, 1) 65536 16 16 = (ush (nz1 x) 16, 1 + 16) from if_neg h] at s0
      exact s0
  · rw [show ntz x = nz1 x &&& 32 from if_neg h] at hQ
    exact hQ
end J1
