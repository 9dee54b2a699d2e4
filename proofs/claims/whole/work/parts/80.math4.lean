/-! ===== rows of strokes: bounds, sets that can have come first ===== -/
def fac : Nat → Nat
  | 0 => 1
  | k + 1 => (k + 1) * fac k
theorem fac_le : ∀ k, k ≤ 12 → fac k ≤ 479001600 := by decide
theorem cntb_xor {s n k : Nat} (hk : k < n) (hb : s.testBit k = true) : cntb (s ^^^ 2 ^ k) n + 1 = cntb s n := by
  induction n with
  | zero => omega
  | succ n ih =>
    unfold cntb
    by_cases e : k = n
    · subst e
      have same : ∀ m, m ≤ k → cntb (s ^^^ 2 ^ k) m = cntb s m := by
        intro m
        induction m with
        | zero => intro _; rfl
        | succ m ih2 =>
          intro hm
          unfold cntb
          have ht : (s ^^^ 2 ^ k).testBit m = s.testBit m := by rw [xor_tb, if_neg (by omega)]
          rw [ih2 (by omega), ht]
      have ht : (s ^^^ 2 ^ k).testBit k = false := (xor_or hb).2
      rw [same k (Nat.le_refl k), ht, hb, if_pos rfl, if_neg (by decide)]
    · have := ih (by omega)
      have ht : (s ^^^ 2 ^ k).testBit n = s.testBit n := by rw [xor_tb, if_neg (by omega)]
      rw [ht]
      by_cases h2 : s.testBit n = true
      · rw [if_pos h2, if_pos h2]; omega
      · rw [if_neg h2, if_neg h2]; exact this
theorem cntb_le (s n : Nat) : cntb s n ≤ n := by
  induction n with
  | zero => exact Nat.le_refl _
  | succ n ih => unfold cntb; split <;> omega
theorem lsum_cnt (s c n : Nat) : lsum (fun k => if s.testBit k = true then c else 0) n = cntb s n * c := by
  induction n with
  | zero => rw [show cntb s 0 = 0 from rfl, Nat.zero_mul]; rfl
  | succ n ih =>
    unfold lsum cntb
    rw [ih]
    by_cases h : s.testBit n = true
    · rw [if_pos h, if_pos h, Nat.succ_mul]
    · rw [if_neg h, if_neg h]; rfl
theorem lin_le (o : Nat → Int32) (n : Nat) : ∀ s, s < 2 ^ n → lin o n s ≤ fac (cntb s n) := by
  intro s
  induction s using Nat.strongRecOn with
  | ind s ih =>
    intro hs
    rw [lin_eq]
    by_cases h0 : s = 0
    · subst h0
      rw [if_pos rfl, lsum_z (fun k _ => if_neg (fun z => by have := z.1; rw [Nat.zero_testBit] at this; cases this))]
      have : ∀ n, cntb 0 n = 0 := by
        intro n
        induction n with
        | zero => rfl
        | succ n ih2 => unfold cntb; rw [ih2, Nat.zero_testBit, if_neg (by decide)]
      rw [this]; decide
    · rw [if_neg h0, Nat.zero_add]
      obtain ⟨i, hi⟩ := Nat.exists_testBit_of_ne_zero h0
      have hin : i < n := by
        refine Nat.lt_of_not_le fun hge => ?_
        rw [Nat.testBit_lt_two_pow (Nat.lt_of_lt_of_le hs (Nat.pow_le_pow_right (by omega) hge))] at hi; cases hi
      have hc := cntb_xor hin hi
      refine Nat.le_trans (lsum_le (g := fun k => if s.testBit k = true then fac (cntb s n - 1) else 0) (fun k hk => ?_)) ?_
      · by_cases c : lnC o s k
        · rw [if_pos c, if_pos c.1]
          have h1 := ih _ (xor_lt c.1) (Nat.lt_trans (xor_lt c.1) hs)
          have h2 := cntb_xor hk c.1
          rw [show cntb (s ^^^ 2 ^ k) n = cntb s n - 1 by omega] at h1
          exact h1
        · rw [if_neg c]; exact Nat.zero_le _
      · rw [lsum_cnt]
        obtain ⟨m, hm⟩ : ∃ m, cntb s n = m + 1 := ⟨cntb s n - 1, by omega⟩
        rw [hm, show m + 1 - 1 = m by omega]
        exact Nat.le_refl _
theorem lin_12 {o : Nat → Int32} {n s : Nat} (hn : n ≤ 12) (hs : s < 2 ^ n) : lin o n s ≤ 479001600 := Nat.le_trans (lin_le o n s hs) (fac_le _ (Nat.le_trans (cntb_le s n) hn))
/-- a row of n strokes that the strokes are over -/
def subS (o : Nat → Int32) (n s : Nat) : Prop := ∀ k, k < n → s.testBit k = true → o k &&& (nI s ^^^ (-1)) = 0
theorem sub_mono {x : Int32} {s t : Nat} (h : x &&& (nI s ^^^ (-1)) = 0) (hst : ∀ i, i < 32 → s.testBit i = true → t.testBit i = true) : x &&& (nI t ^^^ (-1)) = 0 := by
  rw [b_sub] at h ⊢
  intro i hi hb
  have := h i hi hb
  rw [b_nI hi] at this ⊢
  exact hst i hi this
theorem lin_pos1 {o : Nat → Int32} {n : Nat} : ∀ s, s < 2 ^ n → lin o n s ≠ 0 → subS o n s := by
  intro s
  induction s using Nat.strongRecOn with
  | ind s ih =>
    intro hs h k hk hb
    have h0 : s ≠ 0 := fun e => by rw [e, Nat.zero_testBit] at hb; cases hb
    rw [lin_eq, if_neg h0, Nat.zero_add] at h
    have hex : ∃ j, j < n ∧ lnC o s j ∧ lin o n (s ^^^ 2 ^ j) ≠ 0 := by
      refine Classical.byContradiction fun hno => h (lsum_z (fun j hj => ?_))
      by_cases c : lnC o s j
      · rw [if_pos c]; exact Classical.byContradiction fun hne => hno ⟨j, hj, c, hne⟩
      · rw [if_neg c]
    obtain ⟨j, hj, c, hne⟩ := hex
    have hx : ∀ i, i < 32 → (s ^^^ 2 ^ j).testBit i = true → s.testBit i = true := fun i _ hi => by
      rw [xor_tb] at hi
      by_cases e : i = j
      · rw [e]; exact c.1
      · rw [if_neg e] at hi; exact hi
    by_cases e : k = j
    · rw [e]; exact sub_mono c.2 hx
    · refine sub_mono (ih _ (xor_lt c.1) (Nat.lt_trans (xor_lt c.1) hs) hne k hk ?_) hx
      rw [xor_tb, if_neg e]; exact hb
/-- a set with something has something that nothing of it is over -/
theorem max_ex {R : Nat → Nat → Prop} (htr : ∀ a b c, R a b → R b c → R a c) (hir : ∀ a, ¬ R a a) : ∀ n (P : Nat → Prop) k, k < n → P k → ∃ m, m < n ∧ P m ∧ ∀ j, j < n → P j → ¬ R j m := by
  intro n P k hk hp
  have inst : ∀ m, DecidablePred (fun j => R j m) := fun m _ => Classical.propDecidable _
  -- by how many are over it
  have key : ∀ c k, k < n → P k → @wcn (fun j => R j k) (inst k) n ≤ c → ∃ m, m < n ∧ P m ∧ ∀ j, j < n → P j → ¬ R j m := by
    intro c
    induction c with
    | zero =>
      intro k hk hp hc
      refine ⟨k, hk, hp, fun j hj _ hr => ?_⟩
      have : @wcn (fun j => R j k) (inst k) n ≠ 0 := wcn_pos.mpr ⟨j, hj, hr⟩
      omega
    | succ c ih =>
      intro k hk hp hc
      by_cases hx : ∃ j, j < n ∧ P j ∧ R j k
      · obtain ⟨j, hj, hpj, hr⟩ := hx
        refine ih j hj hpj ?_
        have hlt : ∀ N, @wcn (fun i => R i j) (inst j) N ≤ @wcn (fun i => R i k) (inst k) N ∧ (j < N → @wcn (fun i => R i j) (inst j) N < @wcn (fun i => R i k) (inst k) N) := by
          intro N
          induction N with
          | zero => exact ⟨Nat.le_refl _, fun h => absurd h (Nat.not_lt_zero _)⟩
          | succ N ihN =>
            unfold wcn
            by_cases h1 : R N j
            · rw [if_pos h1, if_pos (htr _ _ _ h1 hr)]
              refine ⟨by omega, fun h => ?_⟩
              have : N ≠ j := fun e => by rw [e] at h1; exact hir j h1
              have := ihN.2 (by omega)
              omega
            · rw [if_neg h1]
              by_cases h2 : R N k
              · rw [if_pos h2]; exact ⟨by omega, fun _ => by omega⟩
              · rw [if_neg h2]
                refine ⟨ihN.1, fun h => ?_⟩
                have : N ≠ j := fun e => by rw [e] at h2; exact h2 hr
                exact ihN.2 (by omega)
        have := (hlt n).2 hj
        omega
      · exact ⟨k, hk, hp, fun j hj hpj hr => hx ⟨j, hj, hpj, hr⟩⟩
  exact key _ k hk hp (Nat.le_refl _)
section LP
variable {S : Nat → Int32} {n : Nat}
theorem cl_sub {s k : Nat} (hn : n ≤ 12) (hT : TBn S n) (hk : k < n) : cl S n k &&& (nI s ^^^ (-1)) = 0 ↔ ∀ i, ovr (tT S) n k i → s.testBit i = true := by
  rw [b_sub]
  constructor
  · intro h i hi
    have hl := hi.lt
    have := h i (by omega) ((cl_iff hk hl).mpr hi)
    rw [b_nI (by omega)] at this
    exact this
  · intro h i hi hb
    have hin : i < n := by
      refine Nat.lt_of_not_le fun hge => ?_
      rw [cl_hi hT hk hge hi] at hb; cases hb
    rw [b_nI hi]
    exact h i ((cl_iff hk hin).mp hb)
theorem lin_pos2 (hG : GS S n) : ∀ s, s < 2 ^ n → subS (cl S n) n s → lin (cl S n) n s ≠ 0 := by
  have hn := hG.n12
  intro s
  induction s using Nat.strongRecOn with
  | ind s ih =>
    intro hs hd
    rw [lin_eq]
    by_cases h0 : s = 0
    · rw [if_pos h0]; omega
    · obtain ⟨i, hi⟩ := Nat.exists_testBit_of_ne_zero h0
      have hin : i < n := by
        refine Nat.lt_of_not_le fun hge => ?_
        rw [Nat.testBit_lt_two_pow (Nat.lt_of_lt_of_le hs (Nat.pow_le_pow_right (by omega) hge))] at hi; cases hi
      obtain ⟨m, hm, hmb, hmx⟩ := max_ex (R := fun a b => a < n ∧ ovr (tT S) n a b) (fun a b c h1 h2 => ⟨h1.1, h1.2.trans h2.2⟩) (fun a h => hG.ac a h.1 h.2) n (fun k => s.testBit k = true) i hin hi
      have hsub : ∀ k, k < n → s.testBit k = true → ∀ x, ovr (tT S) n k x → (s ^^^ 2 ^ m).testBit x = true := by
        intro k hk hb x hx
        have h1 := (cl_sub hn hG.tb hk).mp (hd k hk hb) x hx
        rw [xor_tb, if_neg (fun e => by rw [e] at hx; exact hmx k hk hb ⟨hk, hx⟩)]
        exact h1
      have hl : lnC (cl S n) s m := ⟨hmb, (cl_sub hn hG.tb hm).mpr (hsub m hm hmb)⟩
      have hr := ih _ (xor_lt hmb) (Nat.lt_trans (xor_lt hmb) hs) (fun k hk hb => by
        rw [xor_tb] at hb
        by_cases e : k = m
        · rw [if_pos e, e, hmb] at hb; cases hb
        · rw [if_neg e] at hb
          exact (cl_sub hn hG.tb hk).mpr (hsub k hk hb))
      have hge : lin (cl S n) n (s ^^^ 2 ^ m) ≤ lsum (fun k => if lnC (cl S n) s k then lin (cl S n) n (s ^^^ 2 ^ k) else 0) n := by
        refine Nat.le_trans ?_ (lsum_one (f := fun k => if lnC (cl S n) s k then lin (cl S n) n (s ^^^ 2 ^ k) else 0) hm)
        show _ ≤ if lnC (cl S n) s m then lin (cl S n) n (s ^^^ 2 ^ m) else 0
        rw [if_pos hl]; exact Nat.le_refl _
      omega
theorem lin_all (hG : GS S n) : lin (cl S n) n (2 ^ n - 1) ≠ 0 := by
  have p0 : 0 < 2 ^ n := Nat.two_pow_pos n
  refine lin_pos2 hG _ (by omega) (fun k hk _ => (cl_sub hG.n12 hG.tb hk).mpr (fun i hi => full_tb hi.lt))
end LP
/-- one more stroke below b: rows up to sets without b, rows from sets with b, stay -/
theorem lin_off {o : Nat → Int32} {n b : Nat} {x : Int32} : ∀ s, s.testBit b = false → lin (upd o b x) n s = lin o n s := by
  intro s
  induction s using Nat.strongRecOn with
  | ind s ih =>
    intro hb
    rw [lin_eq, lin_eq]
    congr 1
    refine lsum_ext (fun k hk => ?_)
    have e : lnC (upd o b x) s k ↔ lnC o s k := by
      constructor
      · rintro ⟨h1, h2⟩
        have : k ≠ b := fun e => by rw [e, hb] at h1; cases h1
        rw [pk_un this] at h2; exact ⟨h1, h2⟩
      · rintro ⟨h1, h2⟩
        have : k ≠ b := fun e => by rw [e, hb] at h1; cases h1
        exact ⟨h1, by rw [pk_un this]; exact h2⟩
    by_cases c : lnC o s k
    · have hkb : b ≠ k := fun e => by have h1 := c.1; rw [← e, hb] at h1; cases h1
      rw [if_pos (e.mpr c), if_pos c, ih _ (xor_lt c.1) (by rw [xor_tb, if_neg hkb]; exact hb)]
    · rw [if_neg (fun z => c (e.mp z)), if_neg c]
theorem fin_on {o : Nat → Int32} {n b : Nat} {x : Int32} : ∀ d s, 2 ^ n - s ≤ d → s < 2 ^ n → s.testBit b = true → fin (upd o b x) n s = fin o n s := by
  intro d
  induction d with
  | zero => intro s h1 h2; omega
  | succ d ih =>
    intro s h1 h2 hb
    rw [fin_eq _ h2, fin_eq _ h2]
    congr 1
    refine lsum_ext (fun k hk => ?_)
    have e : fnC (upd o b x) s k ↔ fnC o s k := by
      constructor
      · rintro ⟨h1, h2⟩
        have : k ≠ b := fun e => by rw [e, hb] at h1; cases h1
        rw [pk_un this] at h2; exact ⟨h1, h2⟩
      · rintro ⟨h1, h2⟩
        have : k ≠ b := fun e => by rw [e, hb] at h1; cases h1
        exact ⟨h1, by rw [pk_un this]; exact h2⟩
    by_cases c : fnC o s k
    · have hg := or_gt c.1
      rw [if_pos (e.mpr c), if_pos c, ih _ (by omega) (or_lt h2 hk) (by rw [Nat.testBit_or, hb, Bool.true_or])]
    · rw [if_neg (fun z => c (e.mp z)), if_neg c]
/-- rows in which a comes ahead of b, edge by edge -/
theorem ahead_cut {o : Nat → Int32} {n a b : Nat} (hn : n ≤ 12) (ha : a < n) (hb : b < n) : lsum (fun s => if fnC o s b ∧ s.testBit a = true then lin o n s * fin o n (s ||| 2 ^ b) else 0) (2 ^ n) = lin (upd o b (o b ||| sb a)) n (2 ^ n - 1) := by
  rw [lin_fin, ← cut (upd o b (o b ||| sb a)) hb]
  refine lsum_ext (fun s hs => ?_)
  have e : fnC (upd o b (o b ||| sb a)) s b ↔ (fnC o s b ∧ s.testBit a = true) := by
    show (s.testBit b = false ∧ upd o b (o b ||| sb a) b &&& (nI s ^^^ (-1)) = 0) ↔ _
    rw [pk_us, b_sub]
    constructor
    · rintro ⟨h1, h2⟩
      refine ⟨⟨h1, b_sub.mpr (fun i hi hbi => h2 i hi (by rw [b_or, hbi]; rfl))⟩, ?_⟩
      have := h2 a (by omega) (by rw [b_or, b_sb (by omega) (by omega), decide_eq_true rfl, Bool.or_true])
      rw [b_nI (by omega)] at this
      exact this
    · rintro ⟨⟨h1, h2⟩, h3⟩
      refine ⟨h1, fun i hi hbi => ?_⟩
      rw [b_or, b_sb (by omega) hi, Bool.or_eq_true, decide_eq_true_eq] at hbi
      rcases hbi with hbi | hbi
      · exact (b_sub.mp h2) i hi hbi
      · rw [hbi, b_nI (by omega)]; exact h3
  by_cases c : fnC o s b ∧ s.testBit a = true
  · rw [if_pos c, if_pos (e.mpr c), lin_off s c.1.1, fin_on _ (s ||| 2 ^ b) (Nat.le_refl _) (or_lt hs hb) (or_xor c.1.1).2]
  · rw [if_neg c, if_neg (fun z => c (e.mp z))]
