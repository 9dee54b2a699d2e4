/-! ===== floats from 0 to 1, by their bits ===== -/
def uB (B : Nat) : UInt32 := UInt32.ofNat B
theorem uB_n {B : Nat} (h : B < 4294967296) : (uB B).toNat = B := by
  unfold uB
  rw [UInt32.toNat_ofNat']
  exact Nat.mod_eq_of_lt h
theorem k_exps : FP.Core.b32.exps = 256 := rfl
theorem k_tails : FP.Core.b32.tails = 8388608 := rfl
theorem k_qmin : FP.Core.b32.qmin = -149 := rfl
theorem k_qmax : FP.Core.b32.qmax = 104 := rfl
theorem fn_ar {x c : Nat} (hx : 151 ≤ x) (hc : 8388608 ≤ c) : (x - 150) * 8388608 + (c - 8388608) = (x - 151) * 8388608 + c := by omega
theorem fn_dec {E T : Nat} (h1 : 1 ≤ E) (h2 : E ≤ 254) (hT : T < 8388608) : FP.Core.decode FP.Core.b32 (E * 8388608 + T) = .fin false (8388608 + T) ((E : Int) - 150) := by
  have hd : (E * 8388608 + T) / 8388608 = E := by omega
  have hE : FP.Core.fieldE FP.Core.b32 (E * 8388608 + T) = E := by
    show (E * 8388608 + T) / 8388608 % 256 = E
    rw [hd]; omega
  have hF : FP.Core.fieldT FP.Core.b32 (E * 8388608 + T) = T := by
    show (E * 8388608 + T) % 8388608 = T
    omega
  have hS : FP.Core.fieldS FP.Core.b32 (E * 8388608 + T) = false := by
    show ((E * 8388608 + T) / 8388608 / 256 % 2 == 1) = false
    rw [hd, show E / 256 = 0 by omega]; rfl
  unfold FP.Core.decode
  rw [hE, hF, hS, k_exps, if_neg (show ¬ E = 256 - 1 by omega), if_neg (by omega), k_tails, k_qmin]
  congr 1
  omega
theorem fn_enc {c E : Nat} {q : Int} (hc : 8388608 ≤ c) (hq : q = (E : Int) - 150) (hE : 1 ≤ E) : FP.Core.encode FP.Core.b32 (.fin false c q) = E * 8388608 + (c - 8388608) := by
  unfold FP.Core.encode
  show (if c < 8388608 then _ else FP.Core.assemble FP.Core.b32 false ((q - -149).toNat + 1) (c - 8388608)) = _
  rw [if_neg (by omega)]
  show (0 * 256 + ((q - -149).toNat + 1)) * 8388608 + (c - 8388608) = _
  rw [show (q - -149).toNat + 1 = E by omega]
  omega
theorem fn_rr {num den c E : Nat} {e q : Int} (hnum : num ≠ 0) (hq : FP.Core.quantum FP.Core.b32 num den e = q) (hc : FP.Core.nearest (FP.Core.unitsNum num e q) (FP.Core.unitsDen den e q) = c) (hlo : 8388608 ≤ c) (hhi : c ≤ 16777216) (hE : q = (E : Int) - 150) (h1 : 1 ≤ E) (h2 : E ≤ 253) :
    FP.Core.encode FP.Core.b32 (FP.Core.roundRatio FP.Core.b32 false num den e) = E * 8388608 + (c - 8388608) := by
  unfold FP.Core.roundRatio
  rw [if_neg hnum, hq]
  unfold FP.Core.roundAt
  rw [hc]
  unfold FP.Core.settle
  show FP.Core.encode FP.Core.b32 (if c < 16777216 then FP.Core.bound FP.Core.b32 false c q else FP.Core.bound FP.Core.b32 false 8388608 (q + 1)) = _
  by_cases h : c < 16777216
  · rw [if_pos h]
    unfold FP.Core.bound
    rw [k_qmax, if_pos (show q ≤ 104 by omega)]
    exact fn_enc hlo hE h1
  · rw [if_neg h]
    unfold FP.Core.bound
    rw [k_qmax, if_pos (show q + 1 ≤ 104 by omega), fn_enc (E := E + 1) (Nat.le_refl _) (by omega) (by omega)]
    omega
theorem lg2 {c k : Nat} (h1 : 2 ^ k ≤ c) (h2 : c < 2 ^ (k + 1)) : c.log2 = k := by
  have h0 : c ≠ 0 := by have := Nat.two_pow_pos k; omega
  have a := (Nat.le_log2 h0).mpr h1
  have b := (Nat.log2_lt h0).mpr h2
  omega
theorem fn_lead1 {num : Nat} (h : num ≠ 0) : FP.Core.leading num 1 = (num.log2 : Int) := by
  unfold FP.Core.leading
  have e1 : (1 : Nat).log2 = 0 := rfl
  show (if 1 * 2 ^ ((num.log2 : Int) - ((1 : Nat).log2 : Int)).toNat ≤ num * 2 ^ (-((num.log2 : Int) - ((1 : Nat).log2 : Int))).toNat then (num.log2 : Int) - ((1 : Nat).log2 : Int) else (num.log2 : Int) - ((1 : Nat).log2 : Int) - 1) = _
  rw [e1]
  have e2 : ((num.log2 : Int) - ((0 : Nat) : Int)).toNat = num.log2 := by omega
  have e3 : (-((num.log2 : Int) - ((0 : Nat) : Int))).toNat = 0 := by omega
  rw [e2, e3, if_pos (by rw [Nat.one_mul, Nat.pow_zero, Nat.mul_one]; exact Nat.log2_self_le h)]
  omega
theorem fn_q1 {num l : Nat} {e : Int} (h : num ≠ 0) (hl : num.log2 = l) (hq : -149 ≤ (l : Int) + e - 23) : FP.Core.quantum FP.Core.b32 num 1 e = (l : Int) + e - 23 := by
  unfold FP.Core.quantum
  rw [fn_lead1 h, hl]
  show max (-149 : Int) ((l : Int) + e - ((24 : Int) - 1)) = _
  omega
theorem ner_lo (x y : Nat) : x / y ≤ FP.Core.nearest x y := by
  unfold FP.Core.nearest
  split
  · exact Nat.le_refl _
  · split <;> omega
theorem ner_hi (x y : Nat) : FP.Core.nearest x y ≤ x / y + 1 := by
  unfold FP.Core.nearest
  split
  · omega
  · split <;> omega
theorem ner_mul (x : Nat) {y : Nat} (hy : 0 < y) : FP.Core.nearest (x * y) y = x := by
  unfold FP.Core.nearest
  rw [Nat.mul_mod_left, Nat.mul_div_cancel _ hy, if_pos (by omega)]
theorem ner_sc (x y : Nat) {k : Nat} (hk : 0 < k) : FP.Core.nearest (x * k) (y * k) = FP.Core.nearest x y := by
  unfold FP.Core.nearest
  rw [Nat.mul_mod_mul_right, Nat.mul_div_mul_right _ _ hk]
  have e : ∀ a b : Nat, (2 * (a * k) < b * k) = (2 * a < b) := fun a b => by
    rw [← Nat.mul_assoc]; exact propext (Nat.mul_lt_mul_right hk)
  have e2 : ∀ a b : Nat, (b * k < 2 * (a * k)) = (b < 2 * a) := fun a b => by
    rw [← Nat.mul_assoc]; exact propext (Nat.mul_lt_mul_right hk)
  simp only [e, e2]
/-- the bits of a product -/
def mrB (B1 B2 : Nat) : Nat := if 2 ^ 47 ≤ (8388608 + B1 % 8388608) * (8388608 + B2 % 8388608) then 24 else 23
def mlB (B1 B2 : Nat) : Nat := (B1 / 8388608 + B2 / 8388608 + mrB B1 B2 - 151) * 8388608 + FP.Core.nearest ((8388608 + B1 % 8388608) * (8388608 + B2 % 8388608)) (2 ^ mrB B1 B2)
theorem mr_b {c1 c2 : Nat} (h1 : 8388608 ≤ c1) (h2 : c1 < 16777216) (h3 : 8388608 ≤ c2) (h4 : c2 < 16777216) : 70368744177664 ≤ c1 * c2 ∧ c1 * c2 < 281474976710656 := by
  have a := Nat.mul_le_mul h1 h3
  have b := Nat.mul_lt_mul'' h2 h4
  exact ⟨by omega, by omega⟩
theorem fn_mul {E1 T1 E2 T2 mo c E : Nat} (a1 : 1 ≤ E1) (a2 : E1 ≤ 254) (a3 : T1 < 8388608) (b1 : 1 ≤ E2) (b2 : E2 ≤ 254) (b3 : T2 < 8388608) (hmo : mo = if 2 ^ 47 ≤ (8388608 + T1) * (8388608 + T2) then 24 else 23) (hc : c = FP.Core.nearest ((8388608 + T1) * (8388608 + T2)) (2 ^ mo)) (hE : E + 150 = E1 + E2 + mo) (e1 : 1 ≤ E) (e2 : E ≤ 253) :
    FP.Core.mul FP.Core.b32 (E1 * 8388608 + T1) (E2 * 8388608 + T2) = E * 8388608 + (c - 8388608) ∧ 8388608 ≤ c ∧ c ≤ 16777216 := by
  obtain ⟨p1, p2⟩ := mr_b (c1 := 8388608 + T1) (c2 := 8388608 + T2) (by omega) (by omega) (by omega) (by omega)
  have hlog : ((8388608 + T1) * (8388608 + T2)).log2 = 23 + mo := by
    by_cases h : 2 ^ 47 ≤ (8388608 + T1) * (8388608 + T2)
    · rw [if_pos h] at hmo; subst hmo; exact lg2 h (by omega)
    · rw [if_neg h] at hmo; subst hmo; exact lg2 (k := 46) (by omega) (by omega)
  have hdiv : 8388608 ≤ (8388608 + T1) * (8388608 + T2) / 2 ^ mo ∧ (8388608 + T1) * (8388608 + T2) / 2 ^ mo + 1 ≤ 16777216 := by
    by_cases h : 2 ^ 47 ≤ (8388608 + T1) * (8388608 + T2)
    · rw [if_pos h] at hmo; subst hmo; omega
    · rw [if_neg h] at hmo; subst hmo; omega
  have lo := ner_lo ((8388608 + T1) * (8388608 + T2)) (2 ^ mo)
  have hi := ner_hi ((8388608 + T1) * (8388608 + T2)) (2 ^ mo)
  rw [← hc] at lo hi
  refine ⟨?_, by omega, by omega⟩
  unfold FP.Core.mul
  rw [fn_dec a1 a2 a3, fn_dec b1 b2 b3]
  show FP.Core.encode FP.Core.b32 (FP.Core.roundRatio FP.Core.b32 false ((8388608 + T1) * (8388608 + T2)) 1 (((E1 : Int) - 150) + ((E2 : Int) - 150))) = _
  have hn0 : (8388608 + T1) * (8388608 + T2) ≠ 0 := by omega
  generalize (8388608 + T1) * (8388608 + T2) = both at *
  have hmo2 : mo = 24 ∨ mo = 23 := by rw [hmo]; split <;> simp
  refine fn_rr (E := E) (q := (E : Int) - 150) hn0 ?_ ?_ (by omega) (by omega) rfl e1 e2
  · rw [fn_q1 hn0 hlog (by omega)]; omega
  · have u1 : (((E1 : Int) - 150) + ((E2 : Int) - 150) - ((E : Int) - 150)).toNat = 0 := by omega
    have u2 : (((E : Int) - 150) - (((E1 : Int) - 150) + ((E2 : Int) - 150))).toNat = mo := by omega
    unfold FP.Core.unitsNum FP.Core.unitsDen
    rw [u1, u2, Nat.pow_zero, Nat.mul_one, Nat.one_mul]
    exact hc.symm
/-- the product as the model has it -/
theorem fn_mlB {B1 B2 : Nat} (a1 : 8388608 ≤ B1) (a2 : B1 ≤ 1065353216) (b1 : 8388608 ≤ B2) (b2 : B2 ≤ 1065353216) (hs : 151 ≤ B1 / 8388608 + B2 / 8388608) : FP.fmul (uB B1) (uB B2) = uB (mlB B1 B2) ∧ (B1 / 8388608 + B2 / 8388608 - 127) * 8388608 ≤ mlB B1 B2 ∧ mlB B1 B2 ≤ 1065353216 := by
  have hmo : mrB B1 B2 = if 2 ^ 47 ≤ (8388608 + B1 % 8388608) * (8388608 + B2 % 8388608) then 24 else 23 := rfl
  have hmo2 : mrB B1 B2 = 24 ∨ mrB B1 B2 = 23 := by rw [hmo]; split <;> simp
  obtain ⟨h1, h2, h3⟩ := fn_mul (E1 := B1 / 8388608) (T1 := B1 % 8388608) (E2 := B2 / 8388608) (T2 := B2 % 8388608) (mo := mrB B1 B2) (E := B1 / 8388608 + B2 / 8388608 + mrB B1 B2 - 150) (c := FP.Core.nearest ((8388608 + B1 % 8388608) * (8388608 + B2 % 8388608)) (2 ^ mrB B1 B2)) (by omega) (by omega) (by omega) (by omega) (by omega) (by omega) hmo rfl (by omega) (by omega) (by omega)
  have e1 : B1 / 8388608 * 8388608 + B1 % 8388608 = B1 := Nat.div_add_mod' B1 8388608
  have e2 : B2 / 8388608 * 8388608 + B2 % 8388608 = B2 := Nat.div_add_mod' B2 8388608
  rw [e1, e2] at h1
  have hm : FP.Core.mul FP.Core.b32 B1 B2 = mlB B1 B2 := by
    rw [h1]; unfold mlB
    exact fn_ar (by omega) h2
  refine ⟨?_, ?_, ?_⟩
  · show UInt32.ofNat (FP.Core.mul FP.Core.b32 (uB B1).toNat (uB B2).toNat) = _
    rw [uB_n (by omega), uB_n (by omega), hm]; rfl
  · unfold mlB; omega
  · -- never above 1
    by_cases q1 : B1 = 1065353216
    · subst q1
      have hb : (8388608 + 1065353216 % 8388608) * (8388608 + B2 % 8388608) = (8388608 + B2 % 8388608) * 2 ^ 23 := by rw [show 8388608 + 1065353216 % 8388608 = 2 ^ 23 from rfl, Nat.mul_comm]
      have hmr : mrB 1065353216 B2 = 23 := by rw [hmo, if_neg (by omega)]
      unfold mlB
      rw [hmr, hb, ner_mul _ (by omega)]
      omega
    · by_cases q2 : B2 = 1065353216
      · subst q2
        have hb : (8388608 + B1 % 8388608) * (8388608 + 1065353216 % 8388608) = (8388608 + B1 % 8388608) * 2 ^ 23 := by rw [show 8388608 + 1065353216 % 8388608 = 2 ^ 23 from rfl]
        have hmr : mrB B1 1065353216 = 23 := by rw [hmo, if_neg (by omega)]
        unfold mlB
        rw [hmr, hb, ner_mul _ (by omega)]
        omega
      · unfold mlB; omega
