/-! ===== masks of twelve bits: what the JDK's counts give ===== -/
theorem msk {x : Int32} {n : Nat} (hn : n ≤ 31) (h : ∀ i, n ≤ i → i < 32 → bt x i = false) : ∃ m, m < 2 ^ n ∧ x = nI m := by
  refine ⟨x.toBitVec.toNat, ?_, ?_⟩
  · refine Nat.lt_pow_two_of_testBit _ (fun i hi => ?_)
    rcases Nat.lt_or_ge i 32 with h1 | h1
    · exact h i hi h1
    · have := b_big (x := x) h1
      exact this
  · apply Int32.toBitVec_inj.mp
    show x.toBitVec = BitVec.ofNat 32 x.toBitVec.toNat
    simp
set_option maxRecDepth 100000 in
theorem ntz_k : ∀ m, m < 4096 → m ≠ 0 → ntz (nI m) = nI (fstN (fun k => m.testBit k = true) 12) := by decide +kernel
set_option maxRecDepth 100000 in
theorem lob_k : ∀ m, m < 4096 → m ≠ 0 → lobit (nI m) = sb (fstN (fun k => m.testBit k = true) 12) := by decide +kernel
def cntb (m : Nat) : Nat → Nat
  | 0 => 0
  | k + 1 => if m.testBit k = true then cntb m k + 1 else cntb m k
set_option maxRecDepth 100000 in
theorem pcn_k : ∀ m, m < 4096 → pcnt (nI m) = nI (cntb m 12) := by decide +kernel
theorem ntz_b {x : Int32} (h : ∀ i, 12 ≤ i → i < 32 → bt x i = false) (h0 : x ≠ 0) : ntz x = nI (fstN (fun k => bt x k = true) 12) ∧ lobit x = sb (fstN (fun k => bt x k = true) 12) ∧ fstN (fun k => bt x k = true) 12 < 12 := by
  obtain ⟨m, hm, rfl⟩ := msk (by omega) h
  have hm0 : m ≠ 0 := fun e => h0 (by rw [e]; rfl)
  have e : fstN (fun k => bt (nI m) k = true) 12 = fstN (fun k => m.testBit k = true) 12 := fstN_ext (fun i hi => by rw [b_nI (by omega)])
  rw [e]
  refine ⟨ntz_k m hm hm0, lob_k m hm hm0, ?_⟩
  rcases Nat.lt_or_ge (fstN (fun k => m.testBit k = true) 12) 12 with h1 | h1
  · exact h1
  · exfalso
    have h2 : ∀ j, j < 12 → ¬ m.testBit j = true := fun j hj => fstN_min (P := fun k => m.testBit k = true) (n := 12) (by omega)
    apply hm0
    apply Nat.eq_of_testBit_eq
    intro i
    rw [Nat.zero_testBit]
    rcases Nat.lt_or_ge i 12 with h3 | h3
    · simpa using h2 i h3
    · exact Nat.testBit_lt_two_pow (Nat.lt_of_lt_of_le hm (Nat.pow_le_pow_right (by omega) h3))
