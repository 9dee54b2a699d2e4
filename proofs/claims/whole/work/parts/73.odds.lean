/-! ===== odds and likelihoods, as bits ===== -/
noncomputable def jn (w t : Nat) : Nat := dsg (fun j => t ≤ w * 2 ^ j) 11
theorem jn_spec {w t : Nat} (h1 : 1 ≤ w) (h3 : t < 1024) : t ≤ w * 2 ^ jn w t ∧ ∀ i, i < jn w t → w * 2 ^ i < t := by
  have h10 : t ≤ w * 2 ^ 10 := by omega
  have hle : jn w t ≤ 10 := dsg_le (P := fun j => t ≤ w * 2 ^ j) h10
  refine ⟨dsg_at (P := fun j => t ≤ w * 2 ^ j) (show dsg _ 11 < 11 from by unfold jn at hle; omega), fun i hi => ?_⟩
  refine Nat.lt_of_not_le fun hge => ?_
  have : jn w t ≤ i := dsg_le (P := fun j => t ≤ w * 2 ^ j) hge
  omega
noncomputable def oB (w t : Nat) : Nat := odB w t (jn w t)
theorem jn_uniq {w t j : Nat} (h1 : 1 ≤ w) (h3 : t < 1024) (hj : t ≤ w * 2 ^ j) (hj2 : ∀ i, i < j → w * 2 ^ i < t) : j = jn w t := by
  obtain ⟨a, b⟩ := jn_spec h1 h3
  rcases Nat.lt_trichotomy j (jn w t) with h | h | h
  · have := b j h; omega
  · exact h
  · have := hj2 _ h; omega
/-- weights are in order -/
def WT (W : Nat → Int32) (nl : Nat) : Prop := nl ≤ 10 ∧ ∀ k, k < nl → ∃ v, 1 ≤ v ∧ v ≤ 99 ∧ W k = nI v
theorem totv_b {W : Nat → Int32} {nl : Nat} {set : Int32} (h : WT W nl) : ∀ n, n ≤ nl → ∃ t, totv W set n = nI t ∧ t ≤ 99 * n ∧ ∀ k v, k < n → bt set k = true → W k = nI v → 1 ≤ v → v ≤ 99 → v ≤ t := by
  intro n
  induction n with
  | zero => intro _; exact ⟨0, rfl, Nat.le_refl _, fun k v hk => absurd hk (Nat.not_lt_zero k)⟩
  | succ n ih =>
    intro hn
    obtain ⟨t, e, h1, h2⟩ := ih (by omega)
    obtain ⟨v, v1, v2, ev⟩ := h.2 n (by omega)
    have := h.1
    unfold totv
    by_cases hb : bt set n = true
    · rw [if_pos hb, e, ev, nI_add]
      refine ⟨t + v, rfl, by omega, fun k v' hk hbk ek a1 a2 => ?_⟩
      by_cases ekn : k = n
      · rw [ekn, ev, nI_eq (by omega) (by omega)] at ek; omega
      · have := h2 k v' (by omega) hbk ek a1 a2; omega
    · rw [if_neg hb]
      refine ⟨t, e, by omega, fun k v' hk hbk ek a1 a2 => ?_⟩
      by_cases ekn : k = n
      · rw [ekn] at hbk; exact absurd hbk hb
      · exact h2 k v' (by omega) hbk ek a1 a2
noncomputable def oddB (W : Nat → Int32) (set : Int32) (nl k : Nat) : Nat := if bt set k = true then oB (W k).toNatClampNeg (totv W set nl).toNatClampNeg else 0
theorem odd_s {W : Nat → Int32} {nl k : Nat} {set : Int32} (h : WT W nl) (hk : k < nl) (hb : bt set k = true) : ∃ v t, 1 ≤ v ∧ v ≤ t ∧ t ≤ 990 ∧ W k = nI v ∧ totv W set nl = nI t ∧ oddB W set nl k = oB v t ∧ FP.fdiv (FP.i2f (W k)) (FP.i2f (totv W set nl)) = uB (oddB W set nl k) ∧ 117 * 8388608 ≤ oddB W set nl k ∧ oddB W set nl k ≤ 1065353216 := by
  obtain ⟨v, v1, v2, ev⟩ := h.2 k hk
  obtain ⟨t, et, t1, t2⟩ := totv_b (set := set) h nl (Nat.le_refl nl)
  have hvt := t2 k v hk hb ev v1 v2
  have := h.1
  obtain ⟨j1, j2⟩ := jn_spec (w := v) (t := t) v1 (by omega)
  obtain ⟨f1, f2, f3⟩ := fn_odd v1 hvt (by omega) j1 j2
  have eo : oddB W set nl k = oB v t := by unfold oddB; rw [if_pos hb, ev, et, nI_clamp (by omega), nI_clamp (by omega)]
  refine ⟨v, t, v1, hvt, by omega, ev, et, eo, ?_, ?_, ?_⟩
  · rw [eo, ev, et]; exact f1
  · rw [eo]; exact f2
  · rw [eo]; exact f3
/-- the likelihood of a word, letter by letter -/
noncomputable def lkB (W : Nat → Int32) (nl : Nat) (G : Nat → Int32) (f : Nat) (lt : Nat → Nat) : Nat → Nat
  | 0 => 1065353216
  | i + 1 => mlB (lkB W nl G f lt i) (oddB W (G (f + i)) nl (lt i))
theorem lk_b {W : Nat → Int32} {nl : Nat} {G : Nat → Int32} {f : Nat} {lt : Nat → Nat} {l : Nat} (h : WT W nl) (hl : l ≤ 6) (hlt : ∀ i, i < l → lt i < nl) (hin : ∀ i, i < l → bt (G (f + i)) (lt i) = true) : ∀ i, i ≤ l → (127 - 10 * i) * 8388608 ≤ lkB W nl G f lt i ∧ lkB W nl G f lt i ≤ 1065353216 := by
  intro i
  induction i with
  | zero => intro _; exact ⟨Nat.le_refl _, Nat.le_refl _⟩
  | succ i ih =>
    intro hi
    obtain ⟨a, b⟩ := ih (by omega)
    obtain ⟨v, t, -, -, -, -, -, -, -, o1, o2⟩ := odd_s h (hlt i (by omega)) (hin i (by omega))
    unfold lkB
    generalize lkB W nl G f lt i = P at *
    generalize oddB W (G (f + i)) nl (lt i) = O at *
    have hP : 127 - 10 * i ≤ P / 8388608 := by rw [Nat.le_div_iff_mul_le (by omega)]; exact a
    have hO : 117 ≤ O / 8388608 := by rw [Nat.le_div_iff_mul_le (by omega)]; exact o1
    obtain ⟨-, m1, m2⟩ := fn_mlB (B1 := P) (B2 := O) (by omega) b (by omega) o2 (by omega)
    refine ⟨Nat.le_trans (Nat.mul_le_mul_right _ (by omega)) m1, m2⟩
theorem lk_m {W : Nat → Int32} {nl : Nat} {G : Nat → Int32} {f : Nat} {lt : Nat → Nat} {l i : Nat} (h : WT W nl) (hl : l ≤ 6) (hlt : ∀ i, i < l → lt i < nl) (hin : ∀ i, i < l → bt (G (f + i)) (lt i) = true) (hi : i < l) :
    8388608 ≤ lkB W nl G f lt i ∧ lkB W nl G f lt i ≤ 1065353216 ∧ 8388608 ≤ oddB W (G (f + i)) nl (lt i) ∧ oddB W (G (f + i)) nl (lt i) ≤ 1065353216 ∧ 151 ≤ lkB W nl G f lt i / 8388608 + oddB W (G (f + i)) nl (lt i) / 8388608 := by
  obtain ⟨a, b⟩ := lk_b h hl hlt hin i (by omega)
  obtain ⟨v, t, -, -, -, -, -, -, -, o1, o2⟩ := odd_s h (hlt i hi) (hin i hi)
  generalize lkB W nl G f lt i = P at *
  generalize oddB W (G (f + i)) nl (lt i) = O at *
  have hP : 127 - 10 * i ≤ P / 8388608 := by rw [Nat.le_div_iff_mul_le (by omega)]; exact a
  have hO : 117 ≤ O / 8388608 := by rw [Nat.le_div_iff_mul_le (by omega)]; exact o1
  exact ⟨by omega, b, by omega, o2, by omega⟩
