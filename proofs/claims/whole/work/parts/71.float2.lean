/-! ===== floats: from whole numbers, quotients, the bits by hand ===== -/
theorem fn_nan {B : Nat} (h : B ≤ 2139095040) : vf_n32 (uB B) := by
  unfold vf_n32
  rw [UInt32.le_iff_toNat_le, UInt32.toNat_and, uB_n (by omega)]
  exact Nat.le_trans Nat.and_le_left h
theorem p2s {a b : Nat} (h : b ≤ a) : 2 ^ b * 2 ^ (a - b) = 2 ^ a := by rw [← Nat.pow_add]; congr 1; omega
theorem sc_b {a l : Nat} (hl : l ≤ 23) (h1 : 2 ^ l ≤ a) (h2 : a < 2 ^ (l + 1)) : 8388608 ≤ a * 2 ^ (23 - l) ∧ a * 2 ^ (23 - l) < 16777216 := by
  have e1 : 2 ^ l * 2 ^ (23 - l) = 8388608 := p2s hl
  have e2 : 2 ^ (l + 1) * 2 ^ (23 - l) = 16777216 := by rw [Nat.pow_succ, Nat.mul_right_comm, e1]
  exact ⟨by rw [← e1]; exact Nat.mul_le_mul_right _ h1, by rw [← e2]; exact (Nat.mul_lt_mul_right (Nat.two_pow_pos _)).mpr h2⟩
theorem log2_b {a : Nat} (h : 1 ≤ a) : 2 ^ a.log2 ≤ a ∧ a < 2 ^ (a.log2 + 1) := ⟨Nat.log2_self_le (by omega), Nat.lt_log2_self⟩
theorem log2_23 {a : Nat} (h : 1 ≤ a) (h2 : a < 16777216) : a.log2 ≤ 23 := by
  have := (Nat.log2_lt (k := 24) (show a ≠ 0 by omega)).mpr h2
  omega
theorem ner_1 (x : Nat) : FP.Core.nearest x 1 = x := by have := ner_mul x (show 0 < 1 by omega); rw [Nat.mul_one] at this; exact this
theorem fn_i2f {a : Nat} (h : 1 ≤ a) (h2 : a < 16777216) : FP.i2f (nI a) = uB ((127 + a.log2) * 8388608 + (a * 2 ^ (23 - a.log2) - 8388608)) := by
  have hl := log2_23 h h2
  obtain ⟨b1, b2⟩ := log2_b h
  obtain ⟨s1, s2⟩ := sc_b hl b1 b2
  show UInt32.ofNat (FP.Core.encode FP.Core.b32 (FP.Core.round FP.Core.b32 (FP.Core.ofInt (nI a).toInt))) = _
  rw [nI_toInt (by omega)]
  have e : FP.Core.ofInt (a : Int) = .fin false a 0 := by
    unfold FP.Core.ofInt
    rw [decide_eq_false (by omega), Int.natAbs_natCast]
  rw [e]
  show UInt32.ofNat (FP.Core.encode FP.Core.b32 (FP.Core.roundRatio FP.Core.b32 false a 1 0)) = _
  rw [fn_rr (E := 127 + a.log2) (c := a * 2 ^ (23 - a.log2)) (q := (a.log2 : Int) - 23) (by omega) ?_ ?_ s1 (by omega) (by omega) (by omega) (by omega)]
  · rfl
  · rw [fn_q1 (by omega) rfl (by omega)]; omega
  · unfold FP.Core.unitsNum FP.Core.unitsDen
    rw [show (0 - ((a.log2 : Int) - 23)).toNat = 23 - a.log2 by omega, show ((a.log2 : Int) - 23 - 0).toNat = 0 by omega, Nat.pow_zero, Nat.one_mul]
    exact ner_1 _
theorem fn_lead0 {c1 c2 : Nat} (a1 : 8388608 ≤ c1) (a2 : c1 < 16777216) (b1 : 8388608 ≤ c2) (b2 : c2 < 16777216) : FP.Core.leading c1 c2 = if c2 ≤ c1 then 0 else -1 := by
  have l1 : c1.log2 = 23 := lg2 (k := 23) a1 a2
  have l2 : c2.log2 = 23 := lg2 (k := 23) b1 b2
  unfold FP.Core.leading
  show (if c2 * 2 ^ ((c1.log2 : Int) - (c2.log2 : Int)).toNat ≤ c1 * 2 ^ (-((c1.log2 : Int) - (c2.log2 : Int))).toNat then (c1.log2 : Int) - (c2.log2 : Int) else (c1.log2 : Int) - (c2.log2 : Int) - 1) = _
  rw [l1, l2]
  have e1 : (((23 : Nat) : Int) - ((23 : Nat) : Int)).toNat = 0 := rfl
  have e2 : (-(((23 : Nat) : Int) - ((23 : Nat) : Int))).toNat = 0 := rfl
  rw [e1, e2, Nat.pow_zero, Nat.mul_one, Nat.mul_one]
  rfl
theorem fn_div {c1 c2 E1 E2 E c k : Nat} (a0 : 1 ≤ E1) (a3 : E1 ≤ 254) (b0 : 1 ≤ E2) (b3 : E2 ≤ 254) (a1 : 8388608 ≤ c1) (a2 : c1 < 16777216) (b1 : 8388608 ≤ c2) (b2 : c2 < 16777216) (hk : k = if c2 ≤ c1 then 23 else 24) (hE : E + E2 + k = E1 + 150) (e1 : 1 ≤ E) (e2 : E ≤ 253) (hc : c = FP.Core.nearest (c1 * 2 ^ k) c2) :
    FP.Core.div FP.Core.b32 (E1 * 8388608 + (c1 - 8388608)) (E2 * 8388608 + (c2 - 8388608)) = E * 8388608 + (c - 8388608) ∧ 8388608 ≤ c ∧ c ≤ 16777216 := by
  have hk2 : k = 23 ∨ k = 24 := by rw [hk]; split <;> simp
  have hb : 8388608 ≤ c1 * 2 ^ k / c2 ∧ c1 * 2 ^ k / c2 < 16777216 := by
    constructor
    · rw [Nat.le_div_iff_mul_le (by omega)]
      by_cases h : c2 ≤ c1
      · rw [if_pos h] at hk; subst hk; omega
      · rw [if_neg h] at hk; subst hk; omega
    · rw [Nat.div_lt_iff_lt_mul (by omega)]
      by_cases h : c2 ≤ c1
      · rw [if_pos h] at hk; subst hk; omega
      · rw [if_neg h] at hk; subst hk; omega
  have lo := ner_lo (c1 * 2 ^ k) c2
  have hi := ner_hi (c1 * 2 ^ k) c2
  rw [← hc] at lo hi
  refine ⟨?_, by omega, by omega⟩
  unfold FP.Core.div
  rw [fn_dec a0 a3 (by omega), fn_dec b0 b3 (by omega), show 8388608 + (c1 - 8388608) = c1 by omega, show 8388608 + (c2 - 8388608) = c2 by omega]
  show FP.Core.encode FP.Core.b32 (if c2 = 0 then _ else FP.Core.roundRatio FP.Core.b32 false c1 c2 (((E1 : Int) - 150) - ((E2 : Int) - 150))) = _
  rw [if_neg (by omega)]
  refine fn_rr (E := E) (q := (E : Int) - 150) (by omega) ?_ ?_ (by omega) (by omega) rfl e1 e2
  · unfold FP.Core.quantum
    rw [fn_lead0 a1 a2 b1 b2, k_qmin]
    show max (-149 : Int) ((if c2 ≤ c1 then (0 : Int) else -1) + ((E1 : Int) - 150 - ((E2 : Int) - 150)) - ((24 : Int) - 1)) = _
    by_cases h : c2 ≤ c1
    · rw [if_pos h] at hk ⊢; omega
    · rw [if_neg h] at hk ⊢; omega
  · unfold FP.Core.unitsNum FP.Core.unitsDen
    rw [show (((E1 : Int) - 150) - ((E2 : Int) - 150) - ((E : Int) - 150)).toNat = k by omega, show (((E : Int) - 150) - (((E1 : Int) - 150) - ((E2 : Int) - 150))).toNat = 0 by omega, Nat.pow_zero, Nat.mul_one]
    exact hc.symm
/-- the bits of a quotient -/
def odB (w t j : Nat) : Nat := (126 - j) * 8388608 + FP.Core.nearest (w * 2 ^ j * 8388608) t
theorem fn_odd {w t j : Nat} (h1 : 1 ≤ w) (h2 : w ≤ t) (h3 : t < 1024) (hj : t ≤ w * 2 ^ j) (hj2 : ∀ i, i < j → w * 2 ^ i < t) : FP.fdiv (FP.i2f (nI w)) (FP.i2f (nI t)) = uB (odB w t j) ∧ 117 * 8388608 ≤ odB w t j ∧ odB w t j ≤ 1065353216 := by
  have hlw := log2_23 h1 (by omega)
  have hlt := log2_23 (a := t) (by omega) (by omega)
  obtain ⟨w1, w2⟩ := log2_b h1
  obtain ⟨t1, t2⟩ := log2_b (a := t) (by omega)
  obtain ⟨c1a, c1b⟩ := sc_b hlw w1 w2
  obtain ⟨c2a, c2b⟩ := sc_b hlt t1 t2
  have hwt : w.log2 ≤ t.log2 := by
    refine Nat.le_of_not_lt fun hl => ?_
    have : 2 ^ (t.log2 + 1) ≤ 2 ^ w.log2 := Nat.pow_le_pow_right (by omega) hl
    omega
  have hlt9 : t.log2 ≤ 9 := by have := (Nat.log2_lt (k := 10) (show t ≠ 0 by omega)).mpr h3; omega
  rw [fn_i2f h1 (by omega), fn_i2f (by omega) (by omega)]
  generalize w.log2 = lw at *
  generalize t.log2 = lt at *
  have ec1 : w * 2 ^ (23 - lw) = w * 2 ^ (lt - lw) * 2 ^ (23 - lt) := by rw [Nat.mul_assoc, ← Nat.pow_add]; congr 2; omega
  have pp : 0 < 2 ^ (23 - lt) := Nat.two_pow_pos _
  have hjd : j = if t * 2 ^ (23 - lt) ≤ w * 2 ^ (23 - lw) then lt - lw else lt - lw + 1 := by
    rw [ec1]
    by_cases hc : t ≤ w * 2 ^ (lt - lw)
    · rw [if_pos (Nat.mul_le_mul_right _ hc)]
      refine Nat.le_antisymm (Nat.le_of_not_lt fun hl => ?_) (Nat.le_of_not_lt fun hl => ?_)
      · have := hj2 _ hl; omega
      · have a1 : w * 2 ^ j < 2 ^ (lw + 1) * 2 ^ j := (Nat.mul_lt_mul_right (Nat.two_pow_pos _)).mpr w2
        rw [← Nat.pow_add] at a1
        have a2 : 2 ^ (lw + 1 + j) ≤ 2 ^ lt := Nat.pow_le_pow_right (by omega) (by omega)
        omega
    · rw [if_neg (fun q => hc (Nat.le_of_mul_le_mul_right q pp))]
      refine Nat.le_antisymm (Nat.le_of_not_lt fun hl => ?_) (Nat.le_of_not_lt fun hl => ?_)
      · have a0 := hj2 _ hl
        have a1 : 2 ^ lw * 2 ^ (lt - lw + 1) ≤ w * 2 ^ (lt - lw + 1) := Nat.mul_le_mul_right _ w1
        rw [← Nat.pow_add, show lw + (lt - lw + 1) = lt + 1 by omega] at a1
        omega
      · have a1 : w * 2 ^ j ≤ w * 2 ^ (lt - lw) := Nat.mul_le_mul_left _ (Nat.pow_le_pow_right (by omega) (by omega))
        omega
  have hjs : j ≤ 10 := by rw [hjd]; split <;> omega
  have ek : (if t * 2 ^ (23 - lt) ≤ w * 2 ^ (23 - lw) then 23 else 24) + (lt - lw) = j + 23 := by rw [hjd]; split <;> omega
  have ecc : FP.Core.nearest (w * 2 ^ j * 8388608) t = FP.Core.nearest (w * 2 ^ (23 - lw) * 2 ^ (if t * 2 ^ (23 - lt) ≤ w * 2 ^ (23 - lw) then 23 else 24)) (t * 2 ^ (23 - lt)) := by
    rw [← ner_sc (w * 2 ^ j * 8388608) t pp]
    congr 1
    rw [show (8388608 : Nat) = 2 ^ 23 from rfl, Nat.mul_assoc, Nat.mul_assoc, Nat.mul_assoc, ← Nat.pow_add, ← Nat.pow_add, ← Nat.pow_add]
    congr 2
    omega
  obtain ⟨g1, g2, g3⟩ := fn_div (c1 := w * 2 ^ (23 - lw)) (c2 := t * 2 ^ (23 - lt)) (E1 := 127 + lw) (E2 := 127 + lt) (E := 127 - j) (c := FP.Core.nearest (w * 2 ^ j * 8388608) t) (by omega) (by omega) (by omega) (by omega) c1a c1b c2a c2b rfl (by omega) (by omega) (by omega) ecc
  have lo := ner_lo (w * 2 ^ j * 8388608) t
  refine ⟨?_, ?_, ?_⟩
  · show UInt32.ofNat (FP.Core.div FP.Core.b32 (uB _).toNat (uB _).toNat) = _
    rw [uB_n (by omega), uB_n (by omega), g1]
    have : (127 - j) * 8388608 + (FP.Core.nearest (w * 2 ^ j * 8388608) t - 8388608) = odB w t j := by unfold odB; omega
    rw [this]; rfl
  · unfold odB; omega
  · unfold odB
    by_cases hj0 : j = 0
    · have hwt2 : w = t := by rw [hj0, Nat.pow_zero, Nat.mul_one] at hj; omega
      rw [hj0, hwt2, Nat.pow_zero, Nat.mul_one, Nat.mul_comm t, ner_mul _ (by omega)]
      omega
    · omega
