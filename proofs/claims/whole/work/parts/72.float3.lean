/-! ===== the bits by hand ===== -/
theorem fc1 : FP.fconst1 = uB (127 * 8388608 + 0) := rfl
theorem fc2 : FP.fconst2 = uB (128 * 8388608 + 0) := rfl
theorem fn_mul2 {E T : Nat} (h1 : 1 ≤ E) (h2 : E ≤ 127) (hT : T < 8388608) : FP.fmul (uB (E * 8388608 + T)) FP.fconst2 = uB ((E + 1) * 8388608 + T) := by
  rw [fc2]
  show UInt32.ofNat (FP.Core.mul FP.Core.b32 (uB _).toNat (uB _).toNat) = _
  rw [uB_n (by omega), uB_n (by omega)]
  obtain ⟨g, -, -⟩ := fn_mul (E1 := E) (T1 := T) (E2 := 128) (T2 := 0) (mo := 23) (E := E + 1) (c := 8388608 + T) h1 (by omega) hT (by omega) (by omega) (by omega) (by rw [if_neg (by omega)]) (by rw [show (8388608 + 0 : Nat) = 2 ^ 23 from rfl, ner_mul _ (by omega)]) (by omega) (by omega) (by omega)
  rw [g, show 8388608 + T - 8388608 = T by omega]
  rfl
theorem cmp_i {a b : Int} : compare a b = if a < b then Ordering.lt else if a = b then Ordering.eq else Ordering.gt := rfl
theorem fn_cmp0 {E T : Nat} (h1 : 1 ≤ E) (h2 : E ≤ 127) (hT : T < 8388608) : FP.fcmp (uB (E * 8388608 + T)) FP.fconst0 = some .gt := by
  show FP.Core.order (FP.Core.decode FP.Core.b32 (uB _).toNat) (FP.Core.decode FP.Core.b32 0) = _
  rw [uB_n (by omega), fn_dec h1 (by omega) hT]
  show some (compare (FP.Core.signed false (FP.Core.inUnits (8388608 + T) ((E : Int) - 150) (min ((E : Int) - 150) (-149)))) (FP.Core.signed false (FP.Core.inUnits 0 (-149) (min ((E : Int) - 150) (-149))))) = _
  have e0 : FP.Core.signed false (FP.Core.inUnits 0 (-149) (min ((E : Int) - 150) (-149))) = 0 := by
    unfold FP.Core.inUnits; rw [Nat.zero_mul]; rfl
  have e1 : 0 < FP.Core.signed false (FP.Core.inUnits (8388608 + T) ((E : Int) - 150) (min ((E : Int) - 150) (-149))) := by
    show (0 : Int) < ((FP.Core.inUnits (8388608 + T) ((E : Int) - 150) (min ((E : Int) - 150) (-149)) : Nat) : Int)
    have : 0 < FP.Core.inUnits (8388608 + T) ((E : Int) - 150) (min ((E : Int) - 150) (-149)) := Nat.mul_pos (by omega) (Nat.two_pow_pos _)
    omega
  rw [e0]
  generalize FP.Core.signed false (FP.Core.inUnits (8388608 + T) ((E : Int) - 150) (min ((E : Int) - 150) (-149))) = z at *
  rw [cmp_i, if_neg (by omega), if_neg (by omega)]
theorem fn_cmp1 {E T : Nat} (h1 : 1 ≤ E) (h2 : E ≤ 127) (hT : T < 8388608) : FP.fcmp (uB (E * 8388608 + T)) FP.fconst1 = some (if E < 127 then .lt else if T = 0 then .eq else .gt) := by
  rw [fc1]
  show FP.Core.order (FP.Core.decode FP.Core.b32 (uB _).toNat) (FP.Core.decode FP.Core.b32 (uB _).toNat) = _
  rw [uB_n (by omega), uB_n (by omega), fn_dec h1 (by omega) hT, fn_dec (by omega) (by omega) (by omega)]
  show some (compare (FP.Core.signed false (FP.Core.inUnits (8388608 + T) ((E : Int) - 150) (min ((E : Int) - 150) (((127 : Nat) : Int) - 150)))) (FP.Core.signed false (FP.Core.inUnits (8388608 + 0) (((127 : Nat) : Int) - 150) (min ((E : Int) - 150) (((127 : Nat) : Int) - 150))))) = _
  rw [show min ((E : Int) - 150) (((127 : Nat) : Int) - 150) = (E : Int) - 150 by omega]
  unfold FP.Core.inUnits
  rw [show ((E : Int) - 150 - ((E : Int) - 150)).toNat = 0 by omega, show (((127 : Nat) : Int) - 150 - ((E : Int) - 150)).toNat = 127 - E by omega, Nat.pow_zero, Nat.mul_one]
  show some (compare ((8388608 + T : Nat) : Int) (((8388608 + 0) * 2 ^ (127 - E) : Nat) : Int)) = _
  congr 1
  rw [cmp_i]
  by_cases h : E < 127
  · rw [if_pos h]
    have : 2 ^ 1 ≤ 2 ^ (127 - E) := Nat.pow_le_pow_right (by omega) (by omega)
    have h5 : (8388608 + 0) * 2 ^ 1 ≤ (8388608 + 0) * 2 ^ (127 - E) := Nat.mul_le_mul_left _ this
    generalize (8388608 + 0) * 2 ^ (127 - E) = z at *
    rw [if_pos (by omega)]
  · have e : E = 127 := by omega
    subst e
    rw [if_neg h]
    show (if ((8388608 + T : Nat) : Int) < ((8388608 : Nat) : Int) then Ordering.lt else if ((8388608 + T : Nat) : Int) = ((8388608 : Nat) : Int) then Ordering.eq else Ordering.gt) = _
    rw [if_neg (by omega)]
    by_cases h0 : T = 0
    · rw [if_pos h0, if_pos (by omega)]
    · rw [if_neg h0, if_neg (by omega)]
def mnB (k T : Nat) : Nat := if T = 0 then 0 else (T.log2 + k) * 8388608 + (T * 2 ^ (23 - T.log2) - 8388608)
theorem lgT {T : Nat} (h0 : T ≠ 0) (hT : T < 8388608) : T.log2 ≤ 22 := by have := (Nat.log2_lt (k := 23) h0).mpr hT; omega
theorem fn_dec0 : FP.Core.decode FP.Core.b32 0 = .fin false 0 (-149) := rfl
theorem fn_enc0 : FP.Core.encode FP.Core.b32 (.fin false 0 (-149)) = 0 := rfl
theorem fn_sub {T : Nat} (hT : T < 8388608) : FP.fsub (uB (127 * 8388608 + T)) FP.fconst1 = uB (mnB 104 T) := by
  rw [fc1]
  show UInt32.ofNat (FP.Core.sub FP.Core.b32 (uB _).toNat (uB _).toNat) = _
  rw [uB_n (by omega), uB_n (by omega)]
  unfold FP.Core.sub
  rw [fn_dec (by omega) (by omega) hT, fn_dec (by omega) (by omega) (by omega)]
  have ev : FP.Core.sumUnits false (8388608 + T) (((127 : Nat) : Int) - 150) true (8388608 + 0) (((127 : Nat) : Int) - 150) (min (((127 : Nat) : Int) - 150) (((127 : Nat) : Int) - 150)) = (T : Int) := by
    unfold FP.Core.sumUnits FP.Core.inUnits
    rw [show min (((127 : Nat) : Int) - 150) (((127 : Nat) : Int) - 150) = -23 from rfl, show ((((127 : Nat) : Int) - 150) - -23).toNat = 0 from rfl, Nat.pow_zero, Nat.mul_one, Nat.mul_one]
    show ((8388608 + T : Nat) : Int) + -((8388608 : Nat) : Int) = _
    omega
  show UInt32.ofNat (FP.Core.encode FP.Core.b32 (FP.Core.roundRatio FP.Core.b32 (FP.Core.sumSign false true (FP.Core.sumUnits false (8388608 + T) (((127 : Nat) : Int) - 150) true (8388608 + 0) (((127 : Nat) : Int) - 150) (min (((127 : Nat) : Int) - 150) (((127 : Nat) : Int) - 150)))) (FP.Core.sumUnits false (8388608 + T) (((127 : Nat) : Int) - 150) true (8388608 + 0) (((127 : Nat) : Int) - 150) (min (((127 : Nat) : Int) - 150) (((127 : Nat) : Int) - 150))).natAbs 1 (min (((127 : Nat) : Int) - 150) (((127 : Nat) : Int) - 150)))) = _
  rw [ev, Int.natAbs_natCast, show min (((127 : Nat) : Int) - 150) (((127 : Nat) : Int) - 150) = -23 from rfl]
  by_cases h0 : T = 0
  · subst h0
    rfl
  · have es : FP.Core.sumSign false true (T : Int) = false := by
      unfold FP.Core.sumSign
      rw [if_neg (by omega), decide_eq_false (by omega)]
    rw [es]
    have hl := lgT h0 hT
    obtain ⟨b1, b2⟩ := log2_b (a := T) (by omega)
    obtain ⟨s1, s2⟩ := sc_b (by omega) b1 b2
    rw [fn_rr (E := T.log2 + 104) (c := T * 2 ^ (23 - T.log2)) (q := (T.log2 : Int) - 46) h0 ?_ ?_ s1 (by omega) (by omega) (by omega) (by omega)]
    · unfold mnB; rw [if_neg h0]; rfl
    · rw [fn_q1 h0 rfl (by omega)]; omega
    · unfold FP.Core.unitsNum FP.Core.unitsDen
      rw [show (-23 - ((T.log2 : Int) - 46)).toNat = 23 - T.log2 by omega, show ((T.log2 : Int) - 46 - -23).toNat = 0 by omega, Nat.pow_zero, Nat.one_mul]
      exact ner_1 _
theorem mnB_lt {k T : Nat} (hT : T < 8388608) (hk : k ≤ 150) : mnB k T ≤ 2139095040 := by
  unfold mnB
  by_cases h0 : T = 0
  · rw [if_pos h0]; omega
  · rw [if_neg h0]
    have hl := lgT h0 hT
    obtain ⟨b1, b2⟩ := log2_b (a := T) (by omega)
    obtain ⟨s1, s2⟩ := sc_b (by omega) b1 b2
    omega
theorem fn_mulM {T : Nat} (hT : T < 8388608) : FP.fmul (uB (mnB 104 T)) 1258291200 = uB (mnB 127 T) := by
  show UInt32.ofNat (FP.Core.mul FP.Core.b32 (uB _).toNat 1258291200) = _
  rw [uB_n (by have := mnB_lt (k := 104) hT (by omega); omega)]
  by_cases h0 : T = 0
  · subst h0; rfl
  · have hl := lgT h0 hT
    obtain ⟨b1, b2⟩ := log2_b (a := T) (by omega)
    obtain ⟨s1, s2⟩ := sc_b (by omega) b1 b2
    unfold mnB
    rw [if_neg h0, if_neg h0]
    generalize T * 2 ^ (23 - T.log2) = c at *
    obtain ⟨g, -, -⟩ := fn_mul (E1 := T.log2 + 104) (T1 := c - 8388608) (E2 := 150) (T2 := 0) (mo := 23) (E := T.log2 + 127) (c := c) (by omega) (by omega) (by omega) (by omega) (by omega) (by omega) (by rw [if_neg (by omega)]) (by rw [show 8388608 + (c - 8388608) = c by omega, show (8388608 + 0 : Nat) = 2 ^ 23 from rfl, ner_mul _ (by omega)]) (by omega) (by omega) (by omega)
    rw [show (1258291200 : Nat) = 150 * 8388608 + 0 from rfl, g]
    rfl
theorem fn_f2i {T : Nat} (hT : T < 8388608) : FP.f2i (uB (mnB 127 T)) = nI T := by
  show Int32.ofInt (FP.Core.toInt (-2 ^ 31) (2 ^ 31 - 1) (FP.Core.decode FP.Core.b32 (uB _).toNat)) = _
  rw [uB_n (by have := mnB_lt (k := 127) hT (by omega); omega)]
  by_cases h0 : T = 0
  · subst h0; rfl
  · have hl := lgT h0 hT
    obtain ⟨b1, b2⟩ := log2_b (a := T) (by omega)
    obtain ⟨s1, s2⟩ := sc_b (by omega) b1 b2
    unfold mnB
    rw [if_neg h0, fn_dec (by omega) (by omega) (by omega), show 8388608 + (T * 2 ^ (23 - T.log2) - 8388608) = T * 2 ^ (23 - T.log2) by omega]
    have et : FP.Core.truncate false (T * 2 ^ (23 - T.log2)) (((T.log2 + 127 : Nat) : Int) - 150) = (T : Int) := by
      unfold FP.Core.truncate
      rw [show (((T.log2 + 127 : Nat) : Int) - 150).toNat = 0 by omega, show (-(((T.log2 + 127 : Nat) : Int) - 150)).toNat = 23 - T.log2 by omega, Nat.pow_zero, Nat.mul_one, Nat.mul_div_cancel _ (Nat.two_pow_pos _)]
      rfl
    show Int32.ofInt (max (-2 ^ 31) (min (2 ^ 31 - 1) (FP.Core.truncate false (T * 2 ^ (23 - T.log2)) (((T.log2 + 127 : Nat) : Int) - 150)))) = _
    rw [et, show max (-2 ^ 31 : Int) (min (2 ^ 31 - 1) (T : Int)) = (T : Int) by omega]
    apply Int32.toInt_inj.mp
    rw [nI_toInt (by omega), Int32.toInt_ofInt_of_le (by omega) (by omega)]
theorem fn_bd {E T : Nat} (h : E ≤ 128) (hT : T < 8388608) : E * 8388608 + T ≤ 2139095040 := by omega
section FB
variable {X : HM} {EV : Nat → Value} {d : Nat} {hm : HM} {hs : Nat} {Q : QT}
theorem shl23 {E : Nat} (h : E ≤ 127) : nI E <<< ((23 : Int32) &&& 31) = nI (E * 8388608) := pk_shlN _ 23 rfl (by omega)
theorem c_bitsOf0 (hQ : Q (some (.int 0)) hm hs) : CC X EV (d + 1) 134 [.float FP.fconst0] hm hs Q := by
  refine c_of (ls2 := [.float FP.fconst0, .null, .null, .null]) Y134 (Nat.le_of_ble_eq_true rfl) rfl I134 ?_
  simp only [r_fl0 dX9_bitsOf_0, r_fconst dX9_bitsOf_1, r_fcmp dX9_bitsOf_2, r_if_gt (tgt := 8) dX9_bitsOf_3 rfl, r_iconst dX9_bitsOf_6 ki0, r_iret dX9_bitsOf_7 (Nat.zero_le _) (Nat.zero_le _), r_fl0 dX9_bitsOf_8, r_fs1 dX9_bitsOf_9, r_bipush dX9_bitsOf_10 kb127, r_is2 dX9_bitsOf_12, r_iconst dX9_bitsOf_13 ki0, r_is3 dX9_bitsOf_14, List.cons_append, List.nil_append, Nat.reduceAdd, Option.toList, cat_f, cat_i, cat_n, cat_r, eq_self, true_and, z0, show i_fcs 0 = FP.fconst0 from rfl, show i_fcs 1 = FP.fconst1 from rfl, show i_fcs 2 = FP.fconst2 from rfl, show FP.fcmp FP.fconst0 FP.fconst0 = some .eq from rfl]
  exact ⟨fun q => absurd q (by decide), fun _ => hQ⟩
theorem c_bitsOf {B : Nat} (h1 : 8388608 ≤ B) (h2 : B ≤ 1065353216) (hQ : Q (some (.int (nI B))) hm hs) : CC X EV (d + 1) 134 [.float (uB B)] hm hs Q := by
  obtain ⟨E, T, eB, hE1, hE2, hT⟩ : ∃ E T, B = E * 8388608 + T ∧ 1 ≤ E ∧ E ≤ 127 ∧ T < 8388608 := ⟨B / 8388608, B % 8388608, (Nat.div_add_mod' B 8388608).symm, by omega, by omega, by omega⟩
  subst eB
  refine c_of (ls2 := [.float (uB (E * 8388608 + T)), .null, .null, .null]) Y134 (Nat.le_of_ble_eq_true rfl) rfl I134 ?_
  simp only [r_fl0 dX9_bitsOf_0, r_fconst dX9_bitsOf_1, r_fcmp dX9_bitsOf_2, r_if_gt (tgt := 8) dX9_bitsOf_3 rfl, r_iconst dX9_bitsOf_6 ki0, r_iret dX9_bitsOf_7 (Nat.zero_le _) (Nat.zero_le _), r_fl0 dX9_bitsOf_8, r_fs1 dX9_bitsOf_9, r_bipush dX9_bitsOf_10 kb127, r_is2 dX9_bitsOf_12, r_iconst dX9_bitsOf_13 ki0, r_is3 dX9_bitsOf_14, List.cons_append, List.nil_append, Nat.reduceAdd, Option.toList, cat_f, cat_i, cat_n, cat_r, eq_self, true_and, z0, show i_fcs 0 = FP.fconst0 from rfl, fn_cmp0 hE1 hE2 hT]
  refine ⟨fun _ => ?_, fun q => absurd (by decide) q⟩
  suffices H : ∀ i, i ≤ 127 - E → E1 X EV d 9 0 0 (some .int) false cX9_bitsOf Q 15 [.float (uB (E * 8388608 + T)), .float (uB ((E + i) * 8388608 + T)), .int (nI (127 - i)), .int (nI i)] [] 0 0 hm hs from H 0 (by omega)
  have fin : E1 X EV d 9 0 0 (some .int) false cX9_bitsOf Q 40 [.float (uB (E * 8388608 + T)), .float (uB (127 * 8388608 + T)), .int (nI E), .int (nI (127 - E))] [] 0 0 hm hs := by
    simp only [r_il2 dX9_bitsOf_40, r_bipush dX9_bitsOf_41 kb23, r_ishl dX9_bitsOf_43, r_fl1 dX9_bitsOf_44, r_fconst dX9_bitsOf_45, r_fsub dX9_bitsOf_46, r_ldcwf dX9_bitsOf_47 K9_336, r_fmul dX9_bitsOf_50, r_f2i dX9_bitsOf_51, r_iadd dX9_bitsOf_52, r_iret dX9_bitsOf_53 (Nat.zero_le _) (Nat.zero_le _), List.cons_append, List.nil_append, Nat.reduceAdd, Option.toList, z0, show i_fcs 1 = FP.fconst1 from rfl, fn_sub hT, fn_mulM hT, fn_f2i hT, shl23 hE2, nI_add]
    exact ⟨fn_nan (mnB_lt hT (by omega)), fn_nan (mnB_lt hT (by omega)), hQ⟩
  refine up_loop (127 - E) _ ?_ ?_
  · rw [show E + (127 - E) = 127 by omega, show 127 - (127 - E) = E by omega]
    simp only [r_il3 dX9_bitsOf_15, r_bipush dX9_bitsOf_16 kb126, r_ic_geB (tgt := 40) dX9_bitsOf_18 rfl, r_fl1 dX9_bitsOf_21, r_fconst dX9_bitsOf_22, r_fcmp dX9_bitsOf_23, r_if_geB (tgt := 40) dX9_bitsOf_24 rfl, r_fl1 dX9_bitsOf_27, r_fconst dX9_bitsOf_28, r_fmul dX9_bitsOf_29, r_fs1 dX9_bitsOf_30, r_ii2 dX9_bitsOf_31 knm1, r_ii3 dX9_bitsOf_34 kn1, r_gotoB (tgt := 15) dX9_bitsOf_37 rfl, List.cons_append, List.nil_append, Nat.reduceAdd, Option.toList, cat_f, cat_i, cat_n, cat_r, eq_self, true_and, z0, show i_fcs 1 = FP.fconst1 from rfl, show i_fcs 2 = FP.fconst2 from rfl, fn_cmp1 (E := 127) (by omega) (by omega) hT]
    refine ⟨fun _ => ?_, fun _ => ⟨fun _ => ?_, fun q => ?_⟩⟩
    · try simp (disch := omega) only [E2, nI_1, nI_add, nI_leI, nI_ltI, nI_eq, nI_clamp]
      exact fin
    · try simp (disch := omega) only [E2, nI_1, nI_add, nI_leI, nI_ltI, nI_eq, nI_clamp]
      exact fin
    · refine absurd ?_ q
      rw [if_neg (by omega)]
      by_cases h0 : T = 0
      · rw [if_pos h0]; decide
      · rw [if_neg h0]; decide
  · intro i hi ih
    simp only [r_il3 dX9_bitsOf_15, r_bipush dX9_bitsOf_16 kb126, r_ic_geB (tgt := 40) dX9_bitsOf_18 rfl, r_fl1 dX9_bitsOf_21, r_fconst dX9_bitsOf_22, r_fcmp dX9_bitsOf_23, r_if_geB (tgt := 40) dX9_bitsOf_24 rfl, r_fl1 dX9_bitsOf_27, r_fconst dX9_bitsOf_28, r_fmul dX9_bitsOf_29, r_fs1 dX9_bitsOf_30, r_ii2 dX9_bitsOf_31 knm1, r_ii3 dX9_bitsOf_34 kn1, r_gotoB (tgt := 15) dX9_bitsOf_37 rfl, List.cons_append, List.nil_append, Nat.reduceAdd, Option.toList, cat_f, cat_i, cat_n, cat_r, eq_self, true_and, z0, show i_fcs 1 = FP.fconst1 from rfl, show i_fcs 2 = FP.fconst2 from rfl, fn_cmp1 (E := E + i) (by omega) (by omega) hT, fn_mul2 (E := E + i) (by omega) (by omega) hT]
    refine ⟨fun q => absurd ((nI_leI (a := 126) (by omega) (by omega)).mp q) (by omega), fun _ => ⟨fun q => ?_, fun _ => ⟨fn_nan (fn_bd (by omega) hT), ?_⟩⟩⟩
    · rw [if_pos (by omega)] at q; exact absurd q (by decide)
    · try simp (disch := omega) only [E2, nI_1, nI_add, nI_leI, nI_ltI, nI_eq, nI_clamp]
      rw [show 127 - i = (127 - (i + 1)) + 1 by omega, pk_m1]
      exact ih
end FB
