/-! ===== the model's floats: whole numbers of 64 bits ===== -/
theorem l6_I {n : Nat} (h : n < 9223372036854775808) : (lN n).toInt = (n : Int) := lg_ofNat_toInt h
theorem l6_eq {a b : Nat} (ha : a < 9223372036854775808) (hb : b < 9223372036854775808) : (lN a = lN b) = (a = b) := by
  apply propext; rw [← Int64.toInt_inj, l6_I ha, l6_I hb]; omega
theorem l6_lt {a b : Nat} (ha : a < 9223372036854775808) (hb : b < 9223372036854775808) : (lN a < lN b) = (a < b) := by
  apply propext; rw [Int64.lt_iff_toInt_lt, l6_I ha, l6_I hb]; omega
theorem l6_le {a b : Nat} (ha : a < 9223372036854775808) (hb : b < 9223372036854775808) : (lN a ≤ lN b) = (a ≤ b) := by
  apply propext; rw [Int64.le_iff_toInt_le, l6_I ha, l6_I hb]; omega
theorem l6_div {a b : Nat} (ha : a < 9223372036854775808) (h0 : 0 < b) (hb : b < 9223372036854775808) : lN a / lN b = lN (a / b) := by
  apply Int64.toInt_inj.mp
  have := Nat.div_le_self a b
  rw [lg_ldiv_nonneg (by rw [l6_I ha]; omega) (by rw [l6_I hb]; omega), l6_I ha, l6_I hb, l6_I (by omega)]
  rfl
theorem l6_rem {a b : Nat} (ha : a < 9223372036854775808) (h0 : 0 < b) (hb : b < 9223372036854775808) : lN a - lN a / lN b * lN b = lN (a % b) := by
  rw [l6_div ha h0 hb, lN_mul, lN_sub (Nat.div_mul_le_self a b)]
  congr 1
  have := Nat.div_add_mod' a b
  omega
theorem l6_shl (x : Nat) (s : Int64) (k : Nat) (hs : (s.toBitVec.smod 64).toNat = k) : lN x <<< s = lN (x * 2 ^ k) := by
  apply Int64.toBitVec_inj.mp
  show (BitVec.ofNat 64 x) <<< (s.toBitVec.smod 64).toNat = BitVec.ofNat 64 (x * 2 ^ k)
  rw [hs]
  apply BitVec.eq_of_toNat_eq
  rw [BitVec.toNat_shiftLeft, BitVec.toNat_ofNat, BitVec.toNat_ofNat, Nat.shiftLeft_eq, Nat.mod_mul_mod]
theorem l6_shr {x : Nat} (hx : x < 9223372036854775808) (s : Int64) (k : Nat) (hs : (s.toBitVec.smod 64).toNat = k) : lN x >>> s = lN (x / 2 ^ k) := by
  apply Int64.toInt_inj.mp
  have h2 : x / 2 ^ k ≤ x := Nat.div_le_self _ _
  have h3 : (lN x >>> s).toInt = (lN x).toInt >>> k := by
    show ((lN x).toBitVec.sshiftRight (s.toBitVec.smod 64).toNat).toInt = _
    rw [hs, BitVec.toInt_sshiftRight]
    rfl
  rw [h3, l6_I hx, l6_I (by omega), Int.shiftRight_eq_div_pow]
  rfl
theorem or_23 {T : Nat} (h : T < 8388608) : nI T ||| 8388608 = nI (8388608 + T) := by
  show nI T ||| sb 23 = _
  rw [orsb (by omega), Nat.or_comm]
  congr 1
  have := Nat.two_pow_add_eq_or_of_lt (i := 23) h 1
  rw [Nat.mul_one] at this
  exact this.symm
theorem s126 (x : Int32) : 0 - x + 126 = nI 126 - x := by show 0 - x + 126 = 126 - x; grind
section O3
variable {X : HM} {EV : Nat → Value} {d : Nat} {hm : HM} {hs : Nat} {Q : QT} {m n : Nat} {u : Nat → Int32} {A : Nat → Nat → Int32} {R : Nat → Int64} {w h nl np nw nr : Nat} {L : Nat → Nat}
theorem m_nearest {a b : Nat} (h1 : 1 ≤ a) (h2 : a ≤ b) (h3 : b < 1024) (hQ : Q (some (.int (nI (oB a b)))) hm hs) : CC X EV (d + 1) 232 [.int (nI a), .int (nI b)] hm hs Q := by
  obtain ⟨j1, j2⟩ := jn_spec (w := a) (t := b) h1 h3
  unfold oB odB at hQ
  have hle : jn a b ≤ 10 := dsg_le (P := fun j => b ≤ a * 2 ^ j) (by omega)
  generalize jn a b = J at *
  refine c_of (ls2 := [.int (nI a), .int (nI b), .null, .null, .null, .null, .null, .null, .null]) Y232 (Nat.le_of_ble_eq_true rfl) rfl I232 ?_
  simp only [r_iconst dX10_nearest_0 ki0, r_is2 dX10_nearest_1, r_il0 dX10_nearest_2, r_i2l dX10_nearest_3, r_ls3 dX10_nearest_4, List.cons_append, List.nil_append, Nat.reduceAdd, Option.toList, cat_f, cat_i, cat_n, cat_r, eq_self, true_and, z0, nI_l (show a < 2 ^ 31 by omega)]
  have tail : ∀ y5 y6 y7 y8, E1 X EV d 10 0 0 (some .int) false cX10_nearest Q 24 [.int (nI a), .int (nI b), .int (0 - nI J), .long (lN (a * 2 ^ J)), .null, y5, y6, y7, y8] [] 0 0 hm hs := by
    intro y5 y6 y7 y8
    obtain ⟨tp, etp⟩ : ∃ tp, tp = a * 2 ^ J := ⟨_, rfl⟩
    have htp : tp < 2 ^ 22 := by
      rw [etp]
      have : 2 ^ J ≤ 2 ^ 10 := Nat.pow_le_pow_right (by omega) hle
      exact Nat.lt_of_le_of_lt (Nat.mul_le_mul (show a ≤ 1024 by omega) this) (by omega)
    rw [← etp] at hQ j1 ⊢
    have hsh : ∀ x, lN x <<< ((23 : Int32).toInt64 &&& 63) = lN (x * 8388608) := fun x => l6_shl x _ 23 rfl
    have hq : tp * 8388608 / b ≤ tp * 8388608 := Nat.div_le_self _ _
    have hr : tp * 8388608 % b < b := Nat.mod_lt _ (by omega)
    have hb0 : ¬ lN b = 0 := by rw [show (0 : Int64) = lN 0 from rfl, l6_eq (by omega) (by omega)]; omega
    have e1 : lN (tp * 8388608) / lN b = lN (tp * 8388608 / b) := l6_div (by omega) (by omega) (by omega)
    have e2 : lN (tp * 8388608) - lN (tp * 8388608 / b) * lN b = lN (tp * 8388608 % b) := by rw [← e1]; exact l6_rem (by omega) (by omega) (by omega)
    unfold FP.Core.nearest at hQ
    generalize tp * 8388608 / b = qq at *
    generalize tp * 8388608 % b = rr at *
    have e3 : (2 : Int64) * lN rr = lN (2 * rr) := lN_mul 2 rr
    have e4 : lN qq - lN qq / 2 * 2 = lN (qq % 2) := l6_rem (b := 2) (by omega) (by omega) (by omega)
    have e5 : (0 < lg_cmp (lN (2 * rr)) (lN b)) = (b < 2 * rr) := by rw [propext (lg_cmp_gt _ _), l6_lt (by omega) (by omega)]
    have e6 : (lg_cmp (lN (2 * rr)) (lN b) = 0) = (2 * rr = b) := by rw [propext (lg_cmp_eq _ _), l6_eq (by omega) (by omega)]
    have e7 : (lg_cmp (lN (qq % 2)) 1 = 0) = (qq % 2 = 1) := by rw [propext (lg_cmp_eq _ _), show (1 : Int64) = lN 1 from rfl, l6_eq (by omega) (by omega)]
    have e8 : (0 - nI J + 126) <<< ((23 : Int32) &&& 31) = nI ((126 - J) * 8388608) := by
      rw [s126, pk_sub (by omega)]
      exact pk_shlN _ 23 rfl (by omega)
    simp only [r_ll3 dX10_nearest_24, r_bipush dX10_nearest_25 kb23, r_lshl dX10_nearest_27, r_il1 dX10_nearest_28, r_i2l dX10_nearest_29, r_ldiv dX10_nearest_30, r_ls5 dX10_nearest_31, r_ll3 dX10_nearest_33, r_bipush dX10_nearest_34 kb23, r_lshl dX10_nearest_36, r_il1 dX10_nearest_37, r_i2l dX10_nearest_38, r_lrem dX10_nearest_39, r_ls7 dX10_nearest_40, r_ldc2 dX10_nearest_42 K10_269, r_ll7 dX10_nearest_45, r_lmul dX10_nearest_47, r_il1 dX10_nearest_48, r_i2l dX10_nearest_49, r_lcmp dX10_nearest_50, r_if_gt (tgt := 77) dX10_nearest_51 rfl, r_ldc2 dX10_nearest_54 K10_269, r_ll7 dX10_nearest_57, r_lmul dX10_nearest_59, r_il1 dX10_nearest_60, r_i2l dX10_nearest_61, r_lcmp dX10_nearest_62, r_if_neB (tgt := 83) dX10_nearest_63 rfl, r_ll5 dX10_nearest_66, r_ldc2 dX10_nearest_68 K10_269, r_lrem dX10_nearest_71, r_lconst dX10_nearest_72 kl1, r_lcmp dX10_nearest_73, r_if_neB (tgt := 83) dX10_nearest_74 rfl, r_ll5 dX10_nearest_77, r_lconst dX10_nearest_79 kl1, r_ladd dX10_nearest_80, r_ls5 dX10_nearest_81, List.cons_append, List.nil_append, Nat.reduceAdd, Option.toList, cat_f, cat_i, cat_n, cat_r, eq_self, true_and, z0, nI_l (show b < 2 ^ 31 by omega), hsh, e1, e2, e3, e4, e5, e6, e7, show (2 : Int64) * lN rr = lN (2 * rr) from lN_mul 2 rr, lN_1]
    have fin : ∀ v, Q (some (.int (nI ((126 - J) * 8388608 + v)))) hm hs → ∀ y7 y8, E1 X EV d 10 0 0 (some .int) false cX10_nearest Q 83 [.int (nI a), .int (nI b), .int (0 - nI J), .long (lN tp), .null, .long (lN v), .null, y7, y8] [] 0 0 hm hs := by
      intro v hv y7 y8
      simp only [r_il2 dX10_nearest_83, r_bipush dX10_nearest_84 kb126, r_iadd dX10_nearest_86, r_bipush dX10_nearest_87 kb23, r_ishl dX10_nearest_89, r_ll5 dX10_nearest_90, r_l2i dX10_nearest_92, r_iadd dX10_nearest_93, r_iret dX10_nearest_94 (Nat.zero_le _) (Nat.zero_le _), List.cons_append, List.nil_append, Nat.reduceAdd, Option.toList, z0, e8, lN_i, nI_add]
      exact hv
    refine ⟨hb0, hb0, fun c => ?_, fun c => ⟨fun c2 => ?_, fun c2 => ⟨by decide, fun c3 => ?_, fun c3 => ?_⟩⟩⟩
    · rw [if_neg (by omega), if_pos c] at hQ
      exact fin _ hQ _ _
    · rw [if_pos (by omega)] at hQ
      try simp (disch := omega) only [E2, nI_1, nI_add, nI_leI, nI_ltI, nI_eq, nI_clamp]
      exact fin _ hQ _ _
    · rw [if_neg (by omega), if_neg (by omega), show qq % 2 = 0 by omega] at hQ
      try simp (disch := omega) only [E2, nI_1, nI_add, nI_leI, nI_ltI, nI_eq, nI_clamp]
      exact fin _ hQ _ _
    · rw [if_neg (by omega), if_neg (by omega), show qq % 2 = 1 by omega] at hQ
      exact fin _ hQ _ _
  suffices H : ∀ i, i ≤ J → E1 X EV d 10 0 0 (some .int) false cX10_nearest Q 5 [.int (nI a), .int (nI b), .int (0 - nI i), .long (lN (a * 2 ^ i)), .null, .null, .null, .null, .null] [] 0 0 hm hs from by
    have := H 0 (by omega)
    rw [Nat.pow_zero, Nat.mul_one] at this
    exact this
  refine up_loop J _ ?_ ?_
  · have htp : a * 2 ^ J < 2 ^ 22 := by
      have : 2 ^ J ≤ 2 ^ 10 := Nat.pow_le_pow_right (by omega) hle
      exact Nat.lt_of_le_of_lt (Nat.mul_le_mul (show a ≤ 1024 by omega) this) (by omega)
    have tl := tail .null .null .null .null
    have e5 : (0 ≤ lg_cmp (lN (a * 2 ^ J)) (lN b)) = (b ≤ a * 2 ^ J) := by rw [propext (lg_cmp_ge _ _), l6_le (by omega) (by omega)]
    simp only [r_ll3 dX10_nearest_5, r_il1 dX10_nearest_6, r_i2l dX10_nearest_7, r_lcmp dX10_nearest_8, r_if_geB (tgt := 24) dX10_nearest_9 rfl, r_ll3 dX10_nearest_12, r_ldc2 dX10_nearest_13 K10_269, r_lmul dX10_nearest_16, r_ls3 dX10_nearest_17, r_ii2 dX10_nearest_18 knm1, r_gotoB (tgt := 5) dX10_nearest_21 rfl, List.cons_append, List.nil_append, Nat.reduceAdd, Option.toList, cat_f, cat_i, cat_n, cat_r, eq_self, true_and, z0, nI_l (show b < 2 ^ 31 by omega), e5]
    refine ⟨fun _ => ?_, fun q => absurd j1 q⟩
    try simp (disch := omega) only [E2, nI_1, nI_add, nI_leI, nI_ltI, nI_eq, nI_clamp]
    exact tl
  · intro i hi ih
    have htp := j2 i hi
    have e5 : (0 ≤ lg_cmp (lN (a * 2 ^ i)) (lN b)) = (b ≤ a * 2 ^ i) := by rw [propext (lg_cmp_ge _ _), l6_le (by omega) (by omega)]
    have e6 : lN (a * 2 ^ i) * 2 = lN (a * 2 ^ (i + 1)) := by
      rw [show (2 : Int64) = lN 2 from rfl, lN_mul, Nat.mul_assoc, ← Nat.pow_succ]
    simp only [r_ll3 dX10_nearest_5, r_il1 dX10_nearest_6, r_i2l dX10_nearest_7, r_lcmp dX10_nearest_8, r_if_geB (tgt := 24) dX10_nearest_9 rfl, r_ll3 dX10_nearest_12, r_ldc2 dX10_nearest_13 K10_269, r_lmul dX10_nearest_16, r_ls3 dX10_nearest_17, r_ii2 dX10_nearest_18 knm1, r_gotoB (tgt := 5) dX10_nearest_21 rfl, List.cons_append, List.nil_append, Nat.reduceAdd, Option.toList, cat_f, cat_i, cat_n, cat_r, eq_self, true_and, z0, nI_l (show b < 2 ^ 31 by omega), e5, e6]
    refine ⟨fun q => absurd q (by omega), fun _ => ?_⟩
    rw [i_sub1, nI_1]
    try simp (disch := omega) only [E2, nI_1, nI_add, nI_leI, nI_ltI, nI_eq, nI_clamp]
    exact ih
theorem m_timesOf {B1 B2 : Nat} (a1 : 8388608 ≤ B1) (a2 : B1 ≤ 1065353216) (b1 : 8388608 ≤ B2) (b2 : B2 ≤ 1065353216) (hsum : 151 ≤ B1 / 8388608 + B2 / 8388608) (hQ : Q (some (.int (nI (mlB B1 B2)))) hm hs) : CC X EV (d + 1) 239 [.int (nI B1), .int (nI B2)] hm hs Q := by
  have hmr : mrB B1 B2 = if 2 ^ 47 ≤ (8388608 + B1 % 8388608) * (8388608 + B2 % 8388608) then 24 else 23 := rfl
  unfold mlB at hQ
  obtain ⟨p1, p2⟩ := mr_b (c1 := 8388608 + B1 % 8388608) (c2 := 8388608 + B2 % 8388608) (by omega) (by omega) (by omega) (by omega)
  have u1 : ((nI B1).toUInt32 >>> ((23 : Int32).toUInt32 &&& Int32.toUInt32 31)).toInt32 = nI (B1 / 8388608) := pk_ushrN (by omega) _ 23 rfl
  have u2 : ((nI B2).toUInt32 >>> ((23 : Int32).toUInt32 &&& Int32.toUInt32 31)).toInt32 = nI (B2 / 8388608) := pk_ushrN (by omega) _ 23 rfl
  have n1 : nI B1 &&& 8388607 = nI (B1 % 8388608) := pk_andN (by omega) 23 rfl
  have n2 : nI B2 &&& 8388607 = nI (B2 % 8388608) := pk_andN (by omega) 23 rfl
  have t1 := or_23 (T := B1 % 8388608) (Nat.mod_lt _ (by omega))
  have t2 := or_23 (T := B2 % 8388608) (Nat.mod_lt _ (by omega))
  have i1 : (nI (8388608 + B1 % 8388608)).toInt64 = lN (8388608 + B1 % 8388608) := nI_l (by omega)
  have i2 : (nI (8388608 + B2 % 8388608)).toInt64 = lN (8388608 + B2 % 8388608) := nI_l (by omega)
  have e127 : nI (B1 / 8388608 + B2 / 8388608) - 127 = nI (B1 / 8388608 + B2 / 8388608 - 127) := pk_sub (b := 127) (by omega)
  have hE1 : B1 / 8388608 ≤ 127 := by omega
  have hE2 : B2 / 8388608 ≤ 127 := by omega
  generalize hbo : (8388608 + B1 % 8388608) * (8388608 + B2 % 8388608) = both at *
  generalize hss : B1 / 8388608 + B2 / 8388608 = ES at *
  generalize mrB B1 B2 = mo at *
  refine c_of (ls2 := [.int (nI B1), .int (nI B2), .null, .null, .null, .null, .null, .null, .null, .null, .null, .null]) Y239 (Nat.le_of_ble_eq_true rfl) rfl I239 ?_
  have s47 : lN both >>> ((47 : Int32).toInt64 &&& 63) = lN (both / 140737488355328) := l6_shr (by omega) _ 47 rfl
  have c47 : (lg_cmp (lN (both / 140737488355328)) 1 = 0) = (140737488355328 ≤ both) := by
    rw [propext (lg_cmp_eq _ _), show (1 : Int64) = lN 1 from rfl, l6_eq (by omega) (by omega)]; apply propext; omega
  simp only [r_il0 dX10_timesOf_0, r_bipush dX10_timesOf_1 kb23, r_iushr dX10_timesOf_3, r_il1 dX10_timesOf_4, r_bipush dX10_timesOf_5 kb23, r_iushr dX10_timesOf_7, r_iadd dX10_timesOf_8, r_bipush dX10_timesOf_9 kb127, r_isub dX10_timesOf_11, r_is2 dX10_timesOf_12, r_il0 dX10_timesOf_13, r_ldcw dX10_timesOf_14 K10_311, r_iand dX10_timesOf_17, r_ldcw dX10_timesOf_18 K10_312, r_ior dX10_timesOf_21, r_i2l dX10_timesOf_22, r_il1 dX10_timesOf_23, r_ldcw dX10_timesOf_24 K10_311, r_iand dX10_timesOf_27, r_ldcw dX10_timesOf_28 K10_312, r_ior dX10_timesOf_31, r_i2l dX10_timesOf_32, r_lmul dX10_timesOf_33, r_ls3 dX10_timesOf_34, r_ll3 dX10_timesOf_35, r_bipush dX10_timesOf_36 kb47, r_lshr dX10_timesOf_38, r_lconst dX10_timesOf_39 kl1, r_lcmp dX10_timesOf_40, r_if_ne (tgt := 49) dX10_timesOf_41 rfl, r_bipush dX10_timesOf_44 kb24, r_gotoB (tgt := 51) dX10_timesOf_46 rfl, r_bipush dX10_timesOf_49 kb23, List.cons_append, List.nil_append, Nat.reduceAdd, Option.toList, cat_f, cat_i, cat_n, cat_r, eq_self, true_and, z0, u1, u2, n1, n2, t1, t2, i1, i2, nI_add, hss, e127, lN_mul, hbo, s47, c47]
  have tail : ∀ (M : Int32) (k : Nat), (k = 23 ∨ k = 24) → M = nI k → k = mo → E1 X EV d 10 0 0 (some .int) false cX10_timesOf Q 51 [.int (nI B1), .int (nI B2), .int (nI (ES - 127)), .long (lN both), .null, .null, .null, .null, .null, .null, .null, .null] [.int M] 0 0 hm hs := by
    intro M k hk hM hkm
    subst hM
    subst hkm
    have hS1 : lN both >>> ((nI k).toInt64 &&& 63) = lN (both / 2 ^ k) := by
      rcases hk with e | e <;> subst e
      · exact l6_shr (by omega) _ 23 rfl
      · exact l6_shr (by omega) _ 24 rfl
    have hS2 : lN (both / 2 ^ k) <<< ((nI k).toInt64 &&& 63) = lN (both / 2 ^ k * 2 ^ k) := by
      rcases hk with e | e <;> subst e
      · exact l6_shl _ _ 23 rfl
      · exact l6_shl _ _ 24 rfl
    have hS3 : (1 : Int64) <<< ((nI k - 1).toInt64 &&& 63) = lN (2 ^ (k - 1)) := by
      rcases hk with e | e <;> subst e
      · exact (l6_shl 1 _ 22 rfl).trans rfl
      · exact (l6_shl 1 _ 23 rfl).trans rfl
    have hS4 : lN both - lN (both / 2 ^ k * 2 ^ k) = lN (both % 2 ^ k) := by
      rw [lN_sub (Nat.div_mul_le_self _ _)]
      congr 1
      have := Nat.div_add_mod' both (2 ^ k)
      omega
    have hk2 : 2 ^ k = 2 * 2 ^ (k - 1) := by rcases hk with e | e <;> subst e <;> rfl
    have hkp : 2 ^ (k - 1) ≤ 8388608 := by rcases hk with e | e <;> subst e <;> decide
    have hrl : both % 2 ^ k < 2 ^ k := Nat.mod_lt _ (Nat.two_pow_pos _)
    have hql : both / 2 ^ k ≤ both := Nat.div_le_self _ _
    have hex : nI (ES - 127) + (nI k - 23) - 1 = nI (ES + k - 151) := by
      rw [show (23 : Int32) = nI 23 from rfl, pk_sub (by omega), nI_add, show (1 : Int32) = nI 1 from rfl, pk_sub (by omega), show ES - 127 + (k - 23) - 1 = ES + k - 151 by omega]
    have e8 : nI (ES + k - 151) <<< ((23 : Int32) &&& 31) = nI ((ES + k - 151) * 8388608) := pk_shlN _ 23 rfl (by omega)
    unfold FP.Core.nearest at hQ
    generalize both / 2 ^ k = qq at *
    generalize both % 2 ^ k = rr at *
    generalize 2 ^ (k - 1) = half at *
    rw [hk2] at hQ hrl
    have e5 : (0 < lg_cmp (lN rr) (lN half)) = (half < rr) := by rw [propext (lg_cmp_gt _ _), l6_lt (by omega) (by omega)]
    have e6 : (lg_cmp (lN rr) (lN half) = 0) = (rr = half) := by rw [propext (lg_cmp_eq _ _), l6_eq (by omega) (by omega)]
    have e4 : lN qq - lN qq / 2 * 2 = lN (qq % 2) := l6_rem (b := 2) (by omega) (by omega) (by omega)
    have e7 : (lg_cmp (lN (qq % 2)) 1 = 0) = (qq % 2 = 1) := by rw [propext (lg_cmp_eq _ _), show (1 : Int64) = lN 1 from rfl, l6_eq (by omega) (by omega)]
    simp only [r_is5 dX10_timesOf_51, r_il2 dX10_timesOf_53, r_il5 dX10_timesOf_54, r_bipush dX10_timesOf_56 kb23, r_isub dX10_timesOf_58, r_iadd dX10_timesOf_59, r_is2 dX10_timesOf_60, r_ll3 dX10_timesOf_61, r_il5 dX10_timesOf_62, r_lshr dX10_timesOf_64, r_ls6 dX10_timesOf_65, r_ll3 dX10_timesOf_67, r_ll6 dX10_timesOf_68, r_il5 dX10_timesOf_70, r_lshl dX10_timesOf_72, r_lsub dX10_timesOf_73, r_ls8 dX10_timesOf_74, r_lconst dX10_timesOf_76 kl1, r_il5 dX10_timesOf_77, r_iconst dX10_timesOf_79 ki1, r_isub dX10_timesOf_80, r_lshl dX10_timesOf_81, r_ls10 dX10_timesOf_82, r_ll8 dX10_timesOf_84, r_ll10 dX10_timesOf_86, r_lcmp dX10_timesOf_88, r_if_gt (tgt := 111) dX10_timesOf_89 rfl, r_ll8 dX10_timesOf_92, r_ll10 dX10_timesOf_94, r_lcmp dX10_timesOf_96, r_if_neB (tgt := 117) dX10_timesOf_97 rfl, r_ll6 dX10_timesOf_100, r_ldc2 dX10_timesOf_102 K10_269, r_lrem dX10_timesOf_105, r_lconst dX10_timesOf_106 kl1, r_lcmp dX10_timesOf_107, r_if_neB (tgt := 117) dX10_timesOf_108 rfl, r_ll6 dX10_timesOf_111, r_lconst dX10_timesOf_113 kl1, r_ladd dX10_timesOf_114, r_ls6 dX10_timesOf_115, List.cons_append, List.nil_append, Nat.reduceAdd, Option.toList, cat_f, cat_i, cat_n, cat_r, eq_self, true_and, z0, hS1, hS2, hS3, hS4, e4, e5, e6, e7, lN_1]
    have fin : ∀ v, Q (some (.int (nI ((ES + k - 151) * 8388608 + v)))) hm hs → E1 X EV d 10 0 0 (some .int) false cX10_timesOf Q 117 [.int (nI B1), .int (nI B2), .int (nI (ES - 127) + (nI k - 23)), .long (lN both), .null, .int (nI k), .long (lN v), .null, .long (lN rr), .null, .long (lN half), .null] [] 0 0 hm hs := by
      intro v hv
      simp only [r_il2 dX10_timesOf_117, r_iconst dX10_timesOf_118 ki1, r_isub dX10_timesOf_119, r_bipush dX10_timesOf_120 kb23, r_ishl dX10_timesOf_122, r_ll6 dX10_timesOf_123, r_l2i dX10_timesOf_125, r_iadd dX10_timesOf_126, r_iret dX10_timesOf_127 (Nat.zero_le _) (Nat.zero_le _), List.cons_append, List.nil_append, Nat.reduceAdd, Option.toList, z0, hex, e8, lN_i, nI_add]
      exact hv
    refine ⟨fun c => ?_, fun c => ⟨fun c2 => ?_, fun c2 => ⟨by decide, fun c3 => ?_, fun c3 => ?_⟩⟩⟩
    · rw [if_neg (by omega), if_pos (by omega)] at hQ
      exact fin _ hQ
    · rw [if_pos (by omega)] at hQ
      try simp (disch := omega) only [E2, nI_1, nI_add, nI_leI, nI_ltI, nI_eq, nI_clamp]
      exact fin _ hQ
    · rw [if_neg (by omega), if_neg (by omega), show qq % 2 = 0 by omega] at hQ
      try simp (disch := omega) only [E2, nI_1, nI_add, nI_leI, nI_ltI, nI_eq, nI_clamp]
      exact fin _ hQ
    · rw [if_neg (by omega), if_neg (by omega), show qq % 2 = 1 by omega] at hQ
      exact fin _ hQ
  refine ⟨fun c => ?_, fun c => ?_⟩
  · try simp (disch := omega) only [E2, nI_1, nI_add, nI_leI, nI_ltI, nI_eq, nI_clamp]
    exact tail 23 23 (.inl rfl) rfl (by rw [hmr, if_neg c])
  · try simp (disch := omega) only [E2, nI_1, nI_add, nI_leI, nI_ltI, nI_eq, nI_clamp]
    exact tail 24 24 (.inr rfl) rfl (by rw [hmr, if_pos (Classical.not_not.mp c)])
end O3
