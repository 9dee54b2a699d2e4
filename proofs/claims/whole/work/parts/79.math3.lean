/-! ===== rows of strokes, counted over sets ===== -/
theorem lsum_add {f g : Nat → Nat} (k : Nat) : lsum (fun i => f i + g i) k = lsum f k + lsum g k := by
  induction k with
  | zero => rfl
  | succ k ih => unfold lsum; rw [ih]; omega
theorem lsum_0 (k : Nat) : lsum (fun _ => 0) k = 0 := by
  induction k with
  | zero => rfl
  | succ k ih => unfold lsum; rw [ih]
theorem lsum_z {f : Nat → Nat} {k : Nat} (h : ∀ i, i < k → f i = 0) : lsum f k = 0 := by rw [lsum_ext (g := fun _ => 0) h, lsum_0]
theorem lsum_comm {f : Nat → Nat → Nat} (a b : Nat) : lsum (fun i => lsum (fun j => f i j) b) a = lsum (fun j => lsum (fun i => f i j) a) b := by
  induction a with
  | zero => exact (lsum_z (fun _ _ => rfl)).symm
  | succ a ih =>
    rw [show lsum (fun i => lsum (fun j => f i j) b) (a + 1) = lsum (fun i => lsum (fun j => f i j) b) a + lsum (fun j => f a j) b from rfl, ih, ← lsum_add]
    rfl
theorem lsum_mul {f : Nat → Nat} (c k : Nat) : lsum (fun i => c * f i) k = c * lsum f k := by
  induction k with
  | zero => rfl
  | succ k ih => unfold lsum; rw [ih, Nat.mul_add]
theorem lsum_app (f : Nat → Nat) (a b : Nat) : lsum f (a + b) = lsum f a + lsum (fun i => f (a + i)) b := by
  induction b with
  | zero => rfl
  | succ b ih =>
    show lsum f (a + b) + f (a + b) = lsum f a + (lsum (fun i => f (a + i)) b + f (a + b))
    rw [ih]; omega
theorem lsum_le {f g : Nat → Nat} {k : Nat} (h : ∀ i, i < k → f i ≤ g i) : lsum f k ≤ lsum g k := by
  induction k with
  | zero => exact Nat.le_refl _
  | succ k ih => unfold lsum; have := ih (fun i hi => h i (by omega)); have := h k (by omega); omega
theorem lsum_one {f : Nat → Nat} {k i : Nat} (hi : i < k) : f i ≤ lsum f k := by
  induction k with
  | zero => omega
  | succ k ih =>
    unfold lsum
    by_cases e : i = k
    · rw [e]; omega
    · have := ih (by omega); omega
theorem lsum_b {f : Nat → Nat} {k i : Nat} (hi : i < k) (h : ∀ j, j < k → j ≠ i → f j = 0) : lsum f k = f i := by
  induction k with
  | zero => omega
  | succ k ih =>
    unfold lsum
    by_cases e : i = k
    · rw [e, lsum_z (fun j hj => h j (by omega) (by omega))]; omega
    · rw [ih (by omega) (fun j hj hne => h j (by omega) hne), h k (by omega) (by omega)]; rfl
/-- sets without a stroke, sets with it -/
theorem tb_add {n s i : Nat} (hs : s < 2 ^ n) : (2 ^ n + s).testBit i = if i < n then s.testBit i else decide (i = n) := by
  by_cases h1 : i < n
  · rw [if_pos h1, Nat.testBit_two_pow_add_gt h1]
  · rw [if_neg h1]
    by_cases h2 : i = n
    · rw [h2, Nat.testBit_two_pow_add_eq, Nat.testBit_lt_two_pow hs]; simp
    · rw [decide_eq_false h2]
      apply Nat.testBit_lt_two_pow
      have : 2 ^ (n + 1) ≤ 2 ^ i := Nat.pow_le_pow_right (by omega) (by omega)
      rw [Nat.pow_succ] at this
      omega
theorem xor_addn {n s : Nat} (hs : s < 2 ^ n) : (2 ^ n + s) ^^^ 2 ^ n = s := by
  apply Nat.eq_of_testBit_eq
  intro i
  rw [xor_tb, tb_add hs]
  by_cases h1 : i = n
  · subst h1
    simp [Nat.testBit_lt_two_pow hs]
  · by_cases h2 : i < n
    · simp [h1, h2]
    · simp only [h1, h2, if_false]
      have : s.testBit i = false := Nat.testBit_lt_two_pow (Nat.lt_of_lt_of_le hs (Nat.pow_le_pow_right (by omega) (by omega)))
      rw [this]; simp
theorem xor_add {n s k : Nat} (hs : s < 2 ^ n) (hk : k < n) : (2 ^ n + s) ^^^ 2 ^ k = 2 ^ n + (s ^^^ 2 ^ k) := by
  have hx : s ^^^ 2 ^ k < 2 ^ n := Nat.xor_lt_two_pow hs (Nat.pow_lt_pow_right (by omega) hk)
  apply Nat.eq_of_testBit_eq
  intro i
  rw [xor_tb, tb_add hs, tb_add hx, xor_tb]
  by_cases h1 : i < n
  · simp [h1]
  · have : i ≠ k := by omega
    simp [h1, this]
theorem lsum_flip {n k : Nat} (hk : k < n) (G : Nat → Nat) : lsum (fun s => if s.testBit k = true then 0 else G s) (2 ^ n) = lsum (fun s => if s.testBit k = true then G (s ^^^ 2 ^ k) else 0) (2 ^ n) := by
  obtain ⟨d, rfl⟩ : ∃ d, n = k + 1 + d := ⟨n - (k + 1), by omega⟩
  clear hk
  induction d generalizing G with
  | zero =>
    rw [Nat.add_zero, Nat.pow_succ, Nat.mul_two, lsum_app, lsum_app]
    have h1 : ∀ s, s < 2 ^ k → s.testBit k = false := fun s hs => Nat.testBit_lt_two_pow hs
    have h2 : ∀ s, s < 2 ^ k → (2 ^ k + s).testBit k = true := fun s hs => by rw [Nat.testBit_two_pow_add_eq, h1 s hs]; rfl
    rw [lsum_ext (f := fun s => if s.testBit k = true then 0 else G s) (g := G) (fun s hs => by rw [h1 s hs]; rfl),
      lsum_z (f := fun i => if (2 ^ k + i).testBit k = true then 0 else G (2 ^ k + i)) (fun s hs => by rw [if_pos (h2 s hs)]),
      lsum_z (f := fun s => if s.testBit k = true then G (s ^^^ 2 ^ k) else 0) (fun s hs => by rw [h1 s hs]; rfl),
      lsum_ext (f := fun i => if (2 ^ k + i).testBit k = true then G ((2 ^ k + i) ^^^ 2 ^ k) else 0) (g := G) (fun s hs => by rw [if_pos (h2 s hs), xor_addn hs])]
    omega
  | succ d ih =>
    have e : k + 1 + (d + 1) = (k + 1 + d) + 1 := by omega
    rw [e, Nat.pow_succ, Nat.mul_two, lsum_app, lsum_app, ih]
    congr 1
    have h3 : ∀ s, s < 2 ^ (k + 1 + d) → (2 ^ (k + 1 + d) + s).testBit k = s.testBit k := fun s hs => by rw [tb_add hs, if_pos (by omega)]
    rw [lsum_ext (f := fun i => if (2 ^ (k + 1 + d) + i).testBit k = true then 0 else G (2 ^ (k + 1 + d) + i)) (g := fun i => if i.testBit k = true then 0 else (fun s => G (2 ^ (k + 1 + d) + s)) i) (fun s hs => by rw [h3 s hs]),
      lsum_ext (f := fun i => if (2 ^ (k + 1 + d) + i).testBit k = true then G ((2 ^ (k + 1 + d) + i) ^^^ 2 ^ k) else 0) (g := fun i => if i.testBit k = true then (fun s => G (2 ^ (k + 1 + d) + s)) (i ^^^ 2 ^ k) else 0) (fun s hs => by rw [h3 s hs, xor_add hs (by omega)])]
    exact ih _
theorem or_xor {s k : Nat} (h : s.testBit k = false) : (s ||| 2 ^ k) ^^^ 2 ^ k = s ∧ (s ||| 2 ^ k).testBit k = true := by
  constructor
  · apply Nat.eq_of_testBit_eq
    intro i
    rw [xor_tb, Nat.testBit_or, Nat.testBit_two_pow]
    by_cases e : i = k
    · rw [if_pos e, e, h]; simp
    · rw [if_neg e, decide_eq_false (fun z => e z.symm), Bool.or_false]
  · rw [Nat.testBit_or, Nat.testBit_two_pow_self, Bool.or_true]
theorem xor_or {s k : Nat} (h : s.testBit k = true) : (s ^^^ 2 ^ k) ||| 2 ^ k = s ∧ (s ^^^ 2 ^ k).testBit k = false := by
  constructor
  · apply Nat.eq_of_testBit_eq
    intro i
    rw [Nat.testBit_or, xor_tb, Nat.testBit_two_pow]
    by_cases e : i = k
    · rw [if_pos e, e, h]; simp
    · rw [if_neg e, decide_eq_false (fun z => e z.symm), Bool.or_false]
  · rw [xor_tb, if_pos rfl, h]; rfl
theorem or_gt {s k : Nat} (h : s.testBit k = false) : s < s ||| 2 ^ k := by
  obtain ⟨a, b⟩ := or_xor h
  have := xor_lt b
  rw [a] at this
  exact this
/-- in how many rows what is left can follow a set -/
def fin (o : Nat → Int32) (n : Nat) (set : Nat) : Nat :=
  if _hl : set < 2 ^ n then (if set = 2 ^ n - 1 then 1 else 0) + lsum (fun k => if _h : k < n ∧ set.testBit k = false ∧ o k &&& (nI set ^^^ (-1)) = 0 then fin o n (set ||| 2 ^ k) else 0) n else 0
termination_by 2 ^ n - set
decreasing_by
  have := or_gt _h.2.1
  omega
abbrev fnC (o : Nat → Int32) (set k : Nat) : Prop := set.testBit k = false ∧ o k &&& (nI set ^^^ (-1)) = 0
theorem fin_eq (o : Nat → Int32) {n set : Nat} (hl : set < 2 ^ n) : fin o n set = (if set = 2 ^ n - 1 then 1 else 0) + lsum (fun k => if fnC o set k then fin o n (set ||| 2 ^ k) else 0) n := by
  conv => lhs; unfold fin
  rw [dif_pos hl]
  congr 1
  refine lsum_ext (fun k hk => ?_)
  by_cases c : fnC o set k
  · rw [dif_pos ⟨hk, c⟩, if_pos c]
  · rw [dif_neg (fun z => c z.2), if_neg c]
theorem lnC_fnC {o : Nat → Int32} {s k : Nat} : lnC o s k ↔ (s.testBit k = true ∧ fnC o (s ^^^ 2 ^ k) k) := by
  constructor
  · rintro ⟨a, b⟩; exact ⟨a, (xor_or a).2, b⟩
  · rintro ⟨a, b⟩; exact ⟨a, b.2⟩
theorem full_tb {n k : Nat} (hk : k < n) : (2 ^ n - 1).testBit k = true := by rw [Nat.testBit_two_pow_sub_one, decide_eq_true hk]
theorem not_full {n s b : Nat} (hb : b < n) (h : ¬ s.testBit b = true) : s ≠ 2 ^ n - 1 := fun e => h (by rw [e]; exact full_tb hb)
/-- the double sum both ways -/
theorem dbl_eq {o : Nat → Int32} {n : Nat} (P : Nat → Nat → Prop) [∀ s k, Decidable (P s k)] (hP : ∀ s k, s.testBit k = true → (P s k ↔ P (s ^^^ 2 ^ k) k)) :
    lsum (fun s => lsum (fun k => if P s k ∧ fnC o s k then lin o n s * fin o n (s ||| 2 ^ k) else 0) n) (2 ^ n) = lsum (fun s => lsum (fun k => if P s k ∧ lnC o s k then lin o n (s ^^^ 2 ^ k) * fin o n s else 0) n) (2 ^ n) := by
  rw [lsum_comm, lsum_comm (a := 2 ^ n) (f := fun s k => if P s k ∧ lnC o s k then lin o n (s ^^^ 2 ^ k) * fin o n s else 0)]
  refine lsum_ext (fun k hk => ?_)
  have h1 : lsum (fun s => if P s k ∧ fnC o s k then lin o n s * fin o n (s ||| 2 ^ k) else 0) (2 ^ n) = lsum (fun s => if s.testBit k = true then 0 else (if P s k ∧ o k &&& (nI s ^^^ (-1)) = 0 then lin o n s * fin o n (s ||| 2 ^ k) else 0)) (2 ^ n) := by
    refine lsum_ext (fun s _ => ?_)
    by_cases hb : s.testBit k = true
    · rw [if_pos hb, if_neg (fun z => by rw [z.2.1] at hb; cases hb)]
    · rw [if_neg hb]
      have hb : s.testBit k = false := by simpa using hb
      by_cases c : P s k ∧ o k &&& (nI s ^^^ (-1)) = 0
      · rw [if_pos c, if_pos ⟨c.1, hb, c.2⟩]
      · rw [if_neg c, if_neg (fun z => c ⟨z.1, z.2.2⟩)]
  rw [h1, lsum_flip hk]
  refine lsum_ext (fun s _ => ?_)
  by_cases hb : s.testBit k = true
  · rw [if_pos hb, (xor_or hb).1]
    by_cases c : P s k ∧ lnC o s k
    · rw [if_pos c, if_pos ⟨(hP s k hb).mp c.1, c.2.2⟩]
    · rw [if_neg c, if_neg (fun z => c ⟨(hP s k hb).mpr z.1, hb, z.2⟩)]
  · rw [if_neg hb, if_neg (fun z => hb z.2.1)]
theorem mul_if {c : Prop} [Decidable c] (a b : Nat) : a * (if c then b else 0) = if c then a * b else 0 := by
  by_cases h : c
  · rw [if_pos h, if_pos h]
  · rw [if_neg h, if_neg h, Nat.mul_zero]
theorem if_mul {c : Prop} [Decidable c] (a b : Nat) : (if c then a else 0) * b = if c then a * b else 0 := by
  by_cases h : c
  · rw [if_pos h, if_pos h]
  · rw [if_neg h, if_neg h, Nat.zero_mul]
theorem lsum_mulr {f : Nat → Nat} (c k : Nat) : lsum (fun i => f i * c) k = lsum f k * c := by
  rw [Nat.mul_comm, ← lsum_mul]
  exact lsum_ext (fun i _ => Nat.mul_comm _ _)
theorem if_if {c d : Prop} [Decidable c] [Decidable d] (a : Nat) : (if c then (if d then a else 0) else 0) = if c ∧ d then a else 0 := by
  by_cases h : c
  · by_cases h2 : d
    · rw [if_pos h, if_pos h2, if_pos ⟨h, h2⟩]
    · rw [if_pos h, if_neg h2, if_neg (fun z => h2 z.2)]
  · rw [if_neg h, if_neg (fun z => h z.1)]
/-- all rows cross one edge that adds b -/
theorem cut (o : Nat → Int32) {n b : Nat} (hb : b < n) : lsum (fun s => if fnC o s b then lin o n s * fin o n (s ||| 2 ^ b) else 0) (2 ^ n) = fin o n 0 := by
  have p0 : 0 < 2 ^ n := Nat.two_pow_pos n
  have A : lsum (fun s => if s.testBit b = true then 0 else lin o n s * fin o n s) (2 ^ n) = lsum (fun s => if fnC o s b then lin o n s * fin o n (s ||| 2 ^ b) else 0) (2 ^ n) + lsum (fun s => lsum (fun k => if (k ≠ b ∧ s.testBit b = false) ∧ fnC o s k then lin o n s * fin o n (s ||| 2 ^ k) else 0) n) (2 ^ n) := by
    rw [← lsum_add]
    refine lsum_ext (fun s hs => ?_)
    by_cases hsb : s.testBit b = true
    · rw [if_pos hsb, if_neg (fun z => by rw [z.1] at hsb; cases hsb), lsum_z (fun k _ => if_neg (fun z => by rw [z.1.2] at hsb; cases hsb))]
    · rw [if_neg hsb, fin_eq o hs, if_neg (not_full hb hsb), Nat.zero_add, ← lsum_mul]
      have hsb : s.testBit b = false := by simpa using hsb
      have e2 : (if fnC o s b then lin o n s * fin o n (s ||| 2 ^ b) else 0) = lsum (fun k => if k = b ∧ fnC o s k then lin o n s * fin o n (s ||| 2 ^ k) else 0) n := by
        rw [lsum_b (i := b) hb (fun j _ hne => if_neg (fun z => hne z.1))]
        by_cases c : fnC o s b
        · rw [if_pos c, if_pos ⟨rfl, c⟩]
        · rw [if_neg c, if_neg (fun z => c z.2)]
      rw [e2, ← lsum_add]
      refine lsum_ext (fun k hk => ?_)
      rw [mul_if]
      by_cases c : fnC o s k
      · rw [if_pos c]
        by_cases e : k = b
        · rw [if_pos ⟨e, c⟩, if_neg (fun z => z.1.1 e)]; rfl
        · rw [if_neg (fun z => e z.1), if_pos ⟨⟨e, hsb⟩, c⟩, Nat.zero_add]
      · rw [if_neg c, if_neg (fun z => c z.2), if_neg (fun z => c z.2)]
  have Bq : lsum (fun s => if s.testBit b = true then 0 else lin o n s * fin o n s) (2 ^ n) = fin o n 0 + lsum (fun s => lsum (fun k => if (k ≠ b ∧ s.testBit b = false) ∧ lnC o s k then lin o n (s ^^^ 2 ^ k) * fin o n s else 0) n) (2 ^ n) := by
    have e0 : fin o n 0 = lsum (fun s => if s = 0 then fin o n s else 0) (2 ^ n) := by
      rw [lsum_b (i := 0) p0 (fun j _ hne => if_neg hne)]; rfl
    rw [e0, ← lsum_add]
    refine lsum_ext (fun s hs => ?_)
    by_cases hsb : s.testBit b = true
    · rw [if_pos hsb, if_neg (fun z => by rw [z, Nat.zero_testBit] at hsb; cases hsb), lsum_z (fun k _ => if_neg (fun z => by rw [z.1.2] at hsb; cases hsb))]
    · rw [if_neg hsb, lin_eq, Nat.add_mul, ← lsum_mulr, if_mul, Nat.one_mul]
      have hsb : s.testBit b = false := by simpa using hsb
      congr 1
      refine lsum_ext (fun k hk => ?_)
      rw [if_mul]
      by_cases c : lnC o s k
      · have e : k ≠ b := fun e => by rw [← e, c.1] at hsb; cases hsb
        rw [if_pos c, if_pos ⟨⟨e, hsb⟩, c⟩]
      · rw [if_neg c, if_neg (fun z => c z.2)]
  rw [dbl_eq (o := o) (n := n) (fun s k => k ≠ b ∧ s.testBit b = false) (fun s k hk => by
    rw [xor_tb]
    by_cases e : b = k
    · simp [e]
    · rw [if_neg e])] at A
  omega
theorem lin_fin (o : Nat → Int32) (n : Nat) : lin o n (2 ^ n - 1) = fin o n 0 := by
  have p0 : 0 < 2 ^ n := Nat.two_pow_pos n
  have A : lsum (fun s => lin o n s * fin o n s) (2 ^ n) = lin o n (2 ^ n - 1) + lsum (fun s => lsum (fun k => if True ∧ fnC o s k then lin o n s * fin o n (s ||| 2 ^ k) else 0) n) (2 ^ n) := by
    have e0 : lin o n (2 ^ n - 1) = lsum (fun s => if s = 2 ^ n - 1 then lin o n s else 0) (2 ^ n) := by
      rw [lsum_b (i := 2 ^ n - 1) (by omega) (fun j _ hne => if_neg hne), if_pos rfl]
    rw [e0, ← lsum_add]
    refine lsum_ext (fun s hs => ?_)
    rw [fin_eq o hs, Nat.mul_add, mul_if, Nat.mul_one, ← lsum_mul]
    congr 1
    refine lsum_ext (fun k hk => ?_)
    rw [mul_if]
    by_cases c : fnC o s k
    · rw [if_pos c, if_pos ⟨trivial, c⟩]
    · rw [if_neg c, if_neg (fun z => c z.2)]
  have Bq : lsum (fun s => lin o n s * fin o n s) (2 ^ n) = fin o n 0 + lsum (fun s => lsum (fun k => if True ∧ lnC o s k then lin o n (s ^^^ 2 ^ k) * fin o n s else 0) n) (2 ^ n) := by
    have e0 : fin o n 0 = lsum (fun s => if s = 0 then fin o n s else 0) (2 ^ n) := by
      rw [lsum_b (i := 0) p0 (fun j _ hne => if_neg hne)]; rfl
    rw [e0, ← lsum_add]
    refine lsum_ext (fun s hs => ?_)
    rw [lin_eq, Nat.add_mul, ← lsum_mulr, if_mul, Nat.one_mul]
    congr 1
    refine lsum_ext (fun k hk => ?_)
    rw [if_mul]
    by_cases c : lnC o s k
    · rw [if_pos c, if_pos ⟨trivial, c⟩]
    · rw [if_neg c, if_neg (fun z => c z.2)]
  rw [dbl_eq (o := o) (n := n) (fun _ _ => True) (fun s k _ => Iff.rfl)] at A
  omega
