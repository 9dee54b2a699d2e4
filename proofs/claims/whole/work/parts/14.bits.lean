/-! ===== Int32 by its bits: bt x i ===== -/
def bt (x : Int32) (i : Nat) : Bool := x.toBitVec.getLsbD i
theorem b_ext {x y : Int32} (h : ∀ i, i < 32 → bt x i = bt y i) : x = y := Int32.toBitVec_inj.mp (BitVec.eq_of_getLsbD_eq (fun i hi => h i hi))
theorem b_or (x y : Int32) (i : Nat) : bt (x ||| y) i = (bt x i || bt y i) := by unfold bt; rw [Int32.toBitVec_or, BitVec.getLsbD_or]
theorem b_and (x y : Int32) (i : Nat) : bt (x &&& y) i = (bt x i && bt y i) := by unfold bt; rw [Int32.toBitVec_and, BitVec.getLsbD_and]
theorem b_xor (x y : Int32) (i : Nat) : bt (x ^^^ y) i = (bt x i ^^ bt y i) := by unfold bt; rw [Int32.toBitVec_xor, BitVec.getLsbD_xor]
theorem b_big {x : Int32} {i : Nat} (h : 32 ≤ i) : bt x i = false := BitVec.getLsbD_of_ge _ _ h
theorem b_255 (i : Nat) : bt 255 i = decide (i < 8) := by
  rcases Nat.lt_or_ge i 32 with h | h
  · exact (by decide +kernel : ∀ i, i < 32 → bt 255 i = decide (i < 8)) i h
  · rw [b_big h, decide_eq_false (by omega)]
theorem b_65535 (i : Nat) : bt 65535 i = decide (i < 16) := by
  rcases Nat.lt_or_ge i 32 with h | h
  · exact (by decide +kernel : ∀ i, i < 32 → bt 65535 i = decide (i < 16)) i h
  · rw [b_big h, decide_eq_false (by omega)]
theorem b_m1 : ∀ i, i < 32 → bt (-1) i = true := by decide +kernel
theorem b_0 (i : Nat) : bt 0 i = false := BitVec.getLsbD_zero
theorem s_l : ∀ n, n < 32 → ((nI n &&& 31).toBitVec.smod 32).toNat = n := by decide +kernel
theorem s_u : ∀ n, n < 32 → (((nI n).toUInt32 &&& Int32.toUInt32 31).toBitVec % 32).toNat = n := by decide +kernel
theorem b_shl (n : Nat) (hn : n < 32) (x : Int32) {i : Nat} (hi : i < 32) : bt (x <<< (nI n &&& 31)) i = (decide (n ≤ i) && bt x (i - n)) := by
  unfold bt
  rw [Int32.toBitVec_shiftLeft]
  show (x.toBitVec <<< ((nI n &&& 31).toBitVec.smod 32).toNat).getLsbD i = _
  rw [s_l n hn, BitVec.getLsbD_shiftLeft]
  rcases Nat.lt_or_ge i n with h | h
  · simp [h, Nat.not_le.mpr h]
  · simp [hi, h, Nat.not_lt.mpr h]
theorem b_ushr (n : Nat) (hn : n < 32) (x : Int32) (i : Nat) : bt ((x.toUInt32 >>> ((nI n).toUInt32 &&& Int32.toUInt32 31)).toInt32) i = bt x (n + i) := by
  show (x.toUInt32 >>> ((nI n).toUInt32 &&& Int32.toUInt32 31)).toBitVec.getLsbD i = x.toUInt32.toBitVec.getLsbD (n + i)
  rw [UInt32.toBitVec_shiftRight]
  show (x.toUInt32.toBitVec >>> (((nI n).toUInt32 &&& Int32.toUInt32 31).toBitVec % 32).toNat).getLsbD i = _
  rw [s_u n hn, BitVec.getLsbD_ushiftRight]
theorem b_sshr (n : Nat) (hn : n < 32) (x : Int32) {i : Nat} (hi : i < 32) : bt (x >>> (nI n &&& 31)) i = if n + i < 32 then bt x (n + i) else bt x 31 := by
  unfold bt
  rw [Int32.toBitVec_shiftRight]
  show (x.toBitVec.sshiftRight ((nI n &&& 31).toBitVec.smod 32).toNat).getLsbD i = _
  rw [s_l n hn, BitVec.getLsbD_sshiftRight, BitVec.msb_eq_getLsbD_last]
  simp [hi]
theorem b_shl8 (x : Int32) {i : Nat} (hi : i < 32) : bt (x <<< ((8 : Int32) &&& 31)) i = (decide (8 ≤ i) && bt x (i - 8)) := b_shl 8 (by omega) x hi
theorem b_shl16 (x : Int32) {i : Nat} (hi : i < 32) : bt (x <<< ((16 : Int32) &&& 31)) i = (decide (16 ≤ i) && bt x (i - 16)) := b_shl 16 (by omega) x hi
theorem b_shl24 (x : Int32) {i : Nat} (hi : i < 32) : bt (x <<< ((24 : Int32) &&& 31)) i = (decide (24 ≤ i) && bt x (i - 24)) := b_shl 24 (by omega) x hi
theorem b_sshr8 (x : Int32) {i : Nat} (hi : i < 32) : bt (x >>> ((8 : Int32) &&& 31)) i = if 8 + i < 32 then bt x (8 + i) else bt x 31 := b_sshr 8 (by omega) x hi
/-! ===== more on bits ===== -/
theorem b_nI {a i : Nat} (hi : i < 32) : bt (nI a) i = a.testBit i := by
  show (BitVec.ofNat 32 a).getLsbD i = _
  rw [BitVec.getLsbD_ofNat]
  simp [hi]
theorem b_1 : ∀ i, i < 32 → bt 1 i = decide (i = 0) := by decide +kernel
theorem b_not (x : Int32) {i : Nat} (hi : i < 32) : bt (x ^^^ (-1)) i = !bt x i := by
  rw [b_xor, b_m1 i hi, Bool.xor_true]
/-- the bit k -/
def sb (k : Nat) : Int32 := (1 : Int32) <<< (nI k &&& 31)
theorem b_sb {k i : Nat} (hk : k < 32) (hi : i < 32) : bt (sb k) i = decide (i = k) := by
  unfold sb
  rw [b_shl k hk 1 hi]
  by_cases h : k ≤ i
  · rw [decide_eq_true h, b_1 (i - k) (by omega), Bool.true_and]
    congr 1
    exact propext ⟨fun q => by omega, fun q => by omega⟩
  · rw [decide_eq_false h, Bool.false_and, decide_eq_false (by omega)]
theorem tst {x : Int32} {k : Nat} (hk : k < 32) : (x >>> (nI k &&& 31)) &&& 1 = if bt x k = true then 1 else 0 := by
  apply b_ext
  intro i hi
  rw [b_and, b_1 i hi]
  by_cases h0 : i = 0
  · subst h0
    rw [b_sshr k hk x (by omega)]
    simp only [Nat.add_zero, hk, if_true, decide_true, Bool.and_true]
    cases h : bt x k
    · simp [b_0]
    · simp [b_1]
  · rw [decide_eq_false h0, Bool.and_false]
    split
    · rw [b_1 i hi, decide_eq_false h0]
    · rw [b_0]
theorem tst0 {x : Int32} {k : Nat} (hk : k < 32) : ((x >>> (nI k &&& 31)) &&& 1 = 0) = (bt x k = false) := by
  rw [tst hk]
  cases bt x k <;> simp
theorem tst1 {x : Int32} {k : Nat} (hk : k < 32) : ((x >>> (nI k &&& 31)) &&& 1 = 1) = (bt x k = true) := by
  rw [tst hk]
  cases bt x k <;> simp
theorem b_zero {x : Int32} : x = 0 ↔ ∀ i, i < 32 → bt x i = false :=
  ⟨fun h i _ => by rw [h]; exact b_0 i, fun h => b_ext (fun i hi => by rw [h i hi, b_0])⟩
/-- x lies within y -/
def sub32 (x y : Int32) : Prop := ∀ i, i < 32 → bt x i = true → bt y i = true
theorem b_sub {x y : Int32} : (x &&& (y ^^^ (-1)) = 0) ↔ sub32 x y := by
  rw [b_zero]
  constructor
  · intro h i hi hx
    have := h i hi
    rw [b_and, b_not y hi, hx] at this
    simpa using this
  · intro h i hi
    rw [b_and, b_not y hi]
    cases hx : bt x i
    · rfl
    · rw [h i hi hx]; rfl
/-- they meet -/
theorem b_meet {x y : Int32} : (¬ x &&& y = 0) ↔ ∃ i, i < 32 ∧ bt x i = true ∧ bt y i = true := by
  rw [b_zero]
  constructor
  · intro h
    refine Classical.byContradiction fun hn => h fun i hi => ?_
    rw [b_and]
    cases hx : bt x i
    · rfl
    · cases hy : bt y i
      · rfl
      · exact absurd ⟨i, hi, hx, hy⟩ hn
  · rintro ⟨i, hi, hx, hy⟩ h
    have := h i hi
    rw [b_and, hx, hy] at this
    cases this
/-- bits told by a predicate -/
def acc (P : Nat → Prop) [DecidablePred P] : Nat → Int32
  | 0 => 0
  | k + 1 => if P k then acc P k ||| sb k else acc P k
theorem b_acc (P : Nat → Prop) [DecidablePred P] {n i : Nat} (hn : n ≤ 32) (hi : i < 32) : bt (acc P n) i = decide (i < n ∧ P i) := by
  induction n with
  | zero => simp [acc, b_0]
  | succ k ih =>
    unfold acc
    have ih := ih (by omega)
    split
    · rename_i hp
      rw [b_or, ih, b_sb (by omega) hi]
      by_cases h : i = k
      · subst h
        simp [hp]
      · have : (i < k ∧ P i) ↔ (i < k + 1 ∧ P i) := by constructor <;> (rintro ⟨a, b⟩; exact ⟨by omega, b⟩)
        simp only [h, decide_false, Bool.or_false]
        exact decide_eq_decide.mpr this
    · rename_i hp
      rw [ih]
      refine decide_eq_decide.mpr ?_
      constructor
      · rintro ⟨a, b⟩; exact ⟨by omega, b⟩
      · rintro ⟨a, b⟩
        refine ⟨?_, b⟩
        rcases Nat.lt_or_ge i k with h | h
        · exact h
        · have : i = k := by omega
          subst this
          exact absurd b hp
theorem acc_ext {P R : Nat → Prop} [DecidablePred P] [DecidablePred R] {n : Nat} (h : ∀ i, i < n → (P i ↔ R i)) : acc P n = acc R n := by
  induction n with
  | zero => rfl
  | succ k ih =>
    unfold acc
    rw [ih (fun i hi => h i (by omega))]
    by_cases hp : P k
    · rw [if_pos hp, if_pos ((h k (by omega)).mp hp)]
    · rw [if_neg hp, if_neg (fun q => hp ((h k (by omega)).mpr q))]
theorem or0 (x : Int32) : x ||| 0 = x := b_ext (fun i _ => by rw [b_or, b_0, Bool.or_false])
/-- the first of them -/
def fst1 (P : Nat → Prop) [DecidablePred P] : Nat → Int32
  | 0 => -1
  | k + 1 => if fst1 P k = -1 then (if P k then nI k else -1) else fst1 P k
theorem nI_nm1 {k : Nat} (h : k < 2 ^ 31) : nI k ≠ -1 := by
  intro e
  have := congrArg Int32.toInt e
  rw [nI_toInt h] at this
  have h2 : (-1 : Int32).toInt = -1 := by decide
  omega
theorem fst1_none {P : Nat → Prop} [DecidablePred P] {n : Nat} (h : ∀ i, i < n → ¬ P i) : fst1 P n = -1 := by
  induction n with
  | zero => rfl
  | succ k ih =>
    unfold fst1
    rw [ih (fun i hi => h i (by omega)), if_pos rfl, if_neg (h k (by omega))]
theorem fst1_some {P : Nat → Prop} [DecidablePred P] {n k : Nat} (hn : n < 2 ^ 31) (hk : k < n) (hp : P k) (h : ∀ i, i < k → ¬ P i) : fst1 P n = nI k := by
  induction n with
  | zero => omega
  | succ m ih =>
    unfold fst1
    by_cases e : k = m
    · subst e
      rw [fst1_none h, if_pos rfl, if_pos hp]
    · rw [ih (by omega) (by omega), if_neg (nI_nm1 (by omega))]
theorem fst1_ext {P R : Nat → Prop} [DecidablePred P] [DecidablePred R] {n : Nat} (h : ∀ i, i < n → (P i ↔ R i)) : fst1 P n = fst1 R n := by
  induction n with
  | zero => rfl
  | succ k ih =>
    unfold fst1
    rw [ih (fun i hi => h i (by omega))]
    by_cases hp : P k
    · rw [if_pos hp, if_pos ((h k (by omega)).mp hp)]
    · rw [if_neg hp, if_neg (fun q => hp ((h k (by omega)).mpr q))]
/-- an index within n -/
theorem ix {k : Int32} {n : Nat} (hn : n < 2 ^ 31) (h : 0 ≤ k ∧ k < nI n) : ∃ i, i < n ∧ k = nI i := by
  obtain ⟨j, hj, rfl⟩ := nI_of (Int32.not_lt.mpr h.1)
  exact ⟨j, (nI_ltI hj hn).mp h.2, rfl⟩
theorem ix2 {i n : Nat} (hn : n < 2 ^ 31) (h : i < n) : 0 ≤ nI i ∧ nI i < nI n := ⟨nI_pos' (by omega), nI_lt h hn⟩
/-- the first place of them, n if there is none -/
def fstN (P : Nat → Prop) [DecidablePred P] : Nat → Nat
  | 0 => 0
  | k + 1 => if fstN P k < k then fstN P k else if P k then k else k + 1
theorem fstN_s (P : Nat → Prop) [DecidablePred P] (k : Nat) : fstN P (k + 1) = if fstN P k < k then fstN P k else if P k then k else k + 1 := rfl
theorem fstN_none {P : Nat → Prop} [DecidablePred P] {n : Nat} (h : ∀ i, i < n → ¬ P i) : fstN P n = n := by
  induction n with
  | zero => rfl
  | succ k ih =>
    unfold fstN
    rw [ih (fun i hi => h i (by omega)), if_neg (by omega), if_neg (h k (by omega))]
theorem fstN_some {P : Nat → Prop} [DecidablePred P] {n k : Nat} (hk : k < n) (hp : P k) (h : ∀ i, i < k → ¬ P i) : fstN P n = k := by
  induction n with
  | zero => omega
  | succ m ih =>
    unfold fstN
    by_cases e : k = m
    · subst e
      rw [fstN_none h, if_neg (by omega), if_pos hp]
    · rw [ih (by omega), if_pos (by omega)]
theorem fstN_ext {P R : Nat → Prop} [DecidablePred P] [DecidablePred R] {n : Nat} (h : ∀ i, i < n → (P i ↔ R i)) : fstN P n = fstN R n := by
  induction n with
  | zero => rfl
  | succ k ih =>
    unfold fstN
    rw [ih (fun i hi => h i (by omega))]
    by_cases hp : P k
    · rw [if_pos hp, if_pos ((h k (by omega)).mp hp)]
    · rw [if_neg hp, if_neg (fun q => hp ((h k (by omega)).mpr q))]
theorem fstN_le {P : Nat → Prop} [DecidablePred P] (n : Nat) : fstN P n ≤ n := by
  induction n with
  | zero => exact Nat.le_refl _
  | succ k ih =>
    unfold fstN
    split
    · omega
    · split <;> omega
theorem fstN_lt {P : Nat → Prop} [DecidablePred P] {n : Nat} (h : fstN P n < n) : P (fstN P n) := by
  induction n with
  | zero => omega
  | succ k ih =>
    have hl := fstN_le (P := P) k
    by_cases h1 : fstN P k < k
    · have e : fstN P (k + 1) = fstN P k := by rw [fstN_s, if_pos h1]
      rw [e]
      exact ih h1
    · by_cases hp : P k
      · have e : fstN P (k + 1) = k := by rw [fstN_s, if_neg h1, if_pos hp]
        rw [e]
        exact hp
      · have e : fstN P (k + 1) = k + 1 := by rw [fstN_s, if_neg h1, if_neg hp]
        omega
theorem fstN_min {P : Nat → Prop} [DecidablePred P] {n j : Nat} (h : j < fstN P n) : ¬ P j := by
  induction n with
  | zero => exact absurd h (Nat.not_lt_zero _)
  | succ k ih =>
    have hl := fstN_le (P := P) k
    by_cases h1 : fstN P k < k
    · have e : fstN P (k + 1) = fstN P k := by rw [fstN_s, if_pos h1]
      rw [e] at h
      exact ih h
    · by_cases hp : P k
      · have e : fstN P (k + 1) = k := by rw [fstN_s, if_neg h1, if_pos hp]
        rw [e] at h
        exact ih (by omega)
      · have e : fstN P (k + 1) = k + 1 := by rw [fstN_s, if_neg h1, if_neg hp]
        rw [e] at h
        by_cases hj : j = k
        · rw [hj]; exact hp
        · exact ih (by omega)
/-- the value at the first place of them, -1 if there is none -/
def fstv (P : Nat → Prop) [DecidablePred P] (v : Nat → Int32) (n : Nat) : Int32 := if fstN P n < n then v (fstN P n) else -1
theorem fstv_none {P : Nat → Prop} [DecidablePred P] {v : Nat → Int32} {n : Nat} (h : ∀ i, i < n → ¬ P i) : fstv P v n = -1 := by
  unfold fstv
  rw [fstN_none h, if_neg (by omega)]
theorem fstv_some {P : Nat → Prop} [DecidablePred P] {v : Nat → Int32} {n k : Nat} (hk : k < n) (hp : P k) (h : ∀ i, i < k → ¬ P i) : fstv P v n = v k := by
  unfold fstv
  rw [fstN_some hk hp h, if_pos hk]
theorem fstv_ext {P R : Nat → Prop} [DecidablePred P] [DecidablePred R] {v w : Nat → Int32} {n : Nat} (h : ∀ i, i < n → (P i ↔ R i)) (hv : ∀ i, i < n → v i = w i) : fstv P v n = fstv R w n := by
  unfold fstv
  rw [fstN_ext h]
  split
  · rename_i h1
    exact hv _ h1
  · rfl
/-! numbers that the JDK counts -/
def ush (x : Int32) (k : Int32) : Int32 := (x.toUInt32 >>> (k.toUInt32 &&& Int32.toUInt32 31)).toInt32
def pc1 (x : Int32) : Int32 := x - (ush x 1 &&& 1431655765)
def pc2 (x : Int32) : Int32 := (x &&& 858993459) + (ush x 2 &&& 858993459)
def pc3 (x : Int32) : Int32 := (x + ush x 4) &&& 252645135
def pc4 (x : Int32) : Int32 := x + ush x 8
def pc5 (x : Int32) : Int32 := x + ush x 16
def pcnt (x : Int32) : Int32 := pc5 (pc4 (pc3 (pc2 (pc1 x)))) &&& 63
def nz1 (x : Int32) : Int32 := (x ^^^ (-1)) &&& (x - 1)
def nzs (q : Int32 × Int32) (k a b : Int32) : Int32 × Int32 := if q.1 ≤ k then q else (ush q.1 a, q.2 + b)
def ntz (x : Int32) : Int32 := if 0 < nz1 x then (nzs (nzs (nzs (nzs (nz1 x, 1) 65536 16 16) 256 8 8) 16 4 4) 4 2 2).2 + ush (nzs (nzs (nzs (nzs (nz1 x, 1) 65536 16 16) 256 8 8) 16 4 4) 4 2 2).1 1 else nz1 x &&& 32
def lobit (x : Int32) : Int32 := x &&& (-x)
