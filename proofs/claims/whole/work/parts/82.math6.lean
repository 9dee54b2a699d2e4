/-! ===== orders, ahead, mean, ways: the class's answers are the model's ===== -/
theorem lin_cyc {o : Nat → Int32} {n i j : Nat} (hij : i ≠ j) (hi : i < n) (hj : j < n) (hn : n ≤ 12) (h1 : bt (o i) j = true) (h2 : bt (o j) i = true) : ∀ s, s < 2 ^ n → s.testBit i = true → s.testBit j = true → lin o n s = 0 := by
  intro s
  induction s using Nat.strongRecOn with
  | ind s ih =>
    intro hs bi bj
    have h0 : s ≠ 0 := fun e => by rw [e, Nat.zero_testBit] at bi; cases bi
    rw [lin_eq, if_neg h0, Nat.zero_add]
    refine lsum_z (fun k hk => ?_)
    by_cases c : lnC o s k
    · rw [if_pos c]
      refine Classical.byContradiction fun hne => ?_
      have hd := lin_pos1 _ (Nat.lt_trans (xor_lt c.1) hs) hne
      by_cases e1 : k = i
      · subst e1
        have := hd j hj (by rw [xor_tb, if_neg (fun e => hij e.symm)]; exact bj)
        have := (b_sub.mp this) k (by omega) h2
        rw [b_nI (by omega), (xor_or c.1).2] at this; cases this
      · by_cases e2 : k = j
        · subst e2
          have := hd i hi (by rw [xor_tb, if_neg (fun e => hij e)]; exact bi)
          have := (b_sub.mp this) k (by omega) h1
          rw [b_nI (by omega), (xor_or c.1).2] at this; cases this
        · exact hne (ih _ (xor_lt c.1) (Nat.lt_trans (xor_lt c.1) hs) (by rw [xor_tb, if_neg (fun e => e1 e.symm)]; exact bi) (by rw [xor_tb, if_neg (fun e => e2 e.symm)]; exact bj))
    · rw [if_neg c]
section FA
variable {S : Nat → Int32} {n : Nat} {bl : Nat → Int32}
theorem upd_ext {f g : Nat → Int32} {b : Nat} {x y : Int32} {n : Nat} (h : ∀ k, k < n → f k = g k) (hxy : x = y) : ∀ k, k < n → upd f b x k = upd g b y k := by
  intro k hk
  by_cases e : k = b
  · rw [e, pk_us, pk_us, hxy]
  · rw [pk_un e, pk_un e]; exact h k hk
theorem ordW_eq (hG : GS S n) {i j : Nat} (hi : i < n) (hj : j < n) (hij : i ≠ j) : ordW S n j i = lin (upd (cl S n) j (cl S n j ||| sb i)) n (2 ^ n - 1) := by
  have hn := hG.n12
  have p0 : 0 < 2 ^ n := Nat.two_pow_pos n
  unfold ordW
  by_cases h : bt (cl S n i) j = true
  · rw [if_pos h]
    refine (lin_cyc hij hi hj hn ?_ ?_ _ (by omega) (full_tb hi) (full_tb hj)).symm
    · rw [pk_un hij]; exact h
    · rw [pk_us, b_or, b_sb (by omega) (by omega), decide_eq_true rfl, Bool.or_true]
  · rw [if_neg h]
theorem e_orders (hG : GS S n) (hb : ∀ k, k < n → bl k = cl S n k) {T : Nat → Int32} {all : Int32} (h : tb1 bl n T all) : all.toInt64 = lN (lin (cl S n) n (2 ^ n - 1)) := by
  have p0 : 0 < 2 ^ n := Nat.two_pow_pos n
  rw [(tb1_lin h).2, lin_ext hb]
  exact nI_l (by have := lin_12 (o := cl S n) hG.n12 (show 2 ^ n - 1 < 2 ^ n by omega); omega)
theorem e_ahead (hG : GS S n) (hb : ∀ k, k < n → bl k = cl S n k) {E : Nat → Int32} {R : Nat → Int64} (h : tb2 bl n E R) {i j : Nat} (hi : i < n) (hj : j < n) (hij : i ≠ j) : E (i * 12 + j) = nI (ordW S n j i) ∧ ordW S n j i ≤ 479001600 := by
  have p0 : 0 < 2 ^ n := Nat.two_pow_pos n
  rw [(tb2_E hG.n12 h).1 i j hi hj, lin_ext (upd_ext hb (by rw [hb j hj])), ordW_eq hG hi hj hij]
  exact ⟨rfl, lin_12 hG.n12 (by omega)⟩
theorem cntb_lsum (s n : Nat) : cntb s n = lsum (fun k => if s.testBit k = true then 1 else 0) n := by
  rw [lsum_cnt, Nat.mul_one]
theorem cntb_up {s n : Nat} (hs : s < 2 ^ n) : ∀ d, cntb s (n + d) = cntb s n := by
  intro d
  induction d with
  | zero => rfl
  | succ d ih =>
    rw [← ih]
    show (if s.testBit (n + d) = true then _ else _) = _
    rw [Nat.testBit_lt_two_pow (Nat.lt_of_lt_of_le hs (Nat.pow_le_pow_right (by omega) (by omega))), if_neg (by decide)]
    rfl
theorem cntb_12 {s n : Nat} (hn : n ≤ 12) (hs : s < 2 ^ n) : cntb s 12 = cntb s n := by
  have := cntb_up hs (12 - n)
  rw [show n + (12 - n) = 12 by omega] at this
  exact this
theorem e_mean (hG : GS S n) (hb : ∀ k, k < n → bl k = cl S n k) {E : Nat → Int32} {R : Nat → Int64} (h : tb2 bl n E R) {b : Nat} (hbn : b < n) : R b = lN (lsum (fun k => if k = b then 0 else ordW S n b k) n) := by
  have hn := hG.n12
  rw [(tb2_E hn h).2 b hbn]
  congr 1
  have e1 : lsum (XP bl n b) (2 ^ n) = lsum (fun s => lsum (fun k => XE bl n k b s) n) (2 ^ n) := by
    refine lsum_ext (fun s hs => ?_)
    by_cases c : fnC bl s b
    · rw [XP_t c, cntb_12 hn hs, ← lsum_cnt]
      refine lsum_ext (fun k _ => ?_)
      by_cases hk : s.testBit k = true
      · rw [if_pos hk, XE_t c hk]
      · rw [if_neg hk, XE_f (fun z => hk z.2)]
    · rw [XP_f c, lsum_z (fun k _ => XE_f (fun z => c z.1))]
  rw [e1, lsum_comm]
  refine lsum_ext (fun k hk => ?_)
  by_cases e : k = b
  · rw [if_pos e]
    refine lsum_z (fun s _ => XE_f (fun z => ?_))
    have h1 := z.1.1
    rw [← e, z.2] at h1; cases h1
  · rw [if_neg e, ordW_eq hG hk hbn e]
    have := ahead_cut (o := bl) hn hk hbn
    rw [show lsum (fun s => XE bl n k b s) (2 ^ n) = _ from this]
    exact lin_ext (upd_ext hb (by rw [hb b hbn])) _
theorem wysv_wcn {T : Nat → Int32} {lo up : Int32} : ∀ s, wysv T lo up s = wcn (fun s => T s ≠ 0 ∧ lo &&& (nI s ^^^ (-1)) = 0 ∧ up &&& nI s = 0) s := by
  intro s
  induction s with
  | zero => rfl
  | succ s ih => unfold wysv wcn; rw [ih]
theorem e_ways (hG : GS S n) (hb : ∀ k, k < n → bl k = cl S n k) {T : Nat → Int32} {all lo up : Int32} (h : tb1 bl n T all) (hH : HMk S n lo up) : wysv T lo up (2 ^ n) = wyM S n := by
  have hn := hG.n12
  rw [wysv_wcn]
  unfold wyM wyN
  refine wcn_ext (fun s hs => ?_)
  rw [(tb1_lin h).1 s hs, lin_ext hb]
  have hl := lin_12 (o := cl S n) hn hs
  have hp := pw12 hn
  have hnz : nI (lin (cl S n) n s) ≠ 0 ↔ subS (cl S n) n s := by
    constructor
    · intro h1; exact lin_pos1 s hs (fun e => h1 (by rw [e]; rfl))
    · intro h1 e
      exact lin_pos2 hG s hs h1 ((nI_eq (b := 0) (by omega) (by omega)).mp e)
  rw [hnz]
  have hlo : lo &&& (nI s ^^^ (-1)) = 0 ↔ ∀ k, k < n → S (183 + k) = 1 → s.testBit k = true := by
    rw [b_sub]
    constructor
    · intro h1 k hk e
      have := h1 k (by omega) ((hH k (by omega)).1.mpr ⟨hk, e⟩)
      rw [b_nI (by omega)] at this; exact this
    · intro h1 i hi hbi
      have := (hH i hi).1.mp hbi
      rw [b_nI hi]; exact h1 i this.1 this.2
  have hup : up &&& nI s = 0 ↔ ∀ k, k < n → S (183 + k) = 2 → ¬ s.testBit k = true := by
    constructor
    · intro h1 k hk e hbk
      refine absurd h1 (b_meet.mpr ⟨k, by omega, (hH k (by omega)).2.mpr ⟨hk, e⟩, by rw [b_nI (by omega)]; exact hbk⟩)
    · intro h1
      refine Classical.byContradiction fun hne => ?_
      obtain ⟨i, hi, h2, h3⟩ := b_meet.mp hne
      have := (hH i hi).2.mp h2
      rw [b_nI hi] at h3
      exact h1 i this.1 this.2 h3
  rw [hlo, hup]
  constructor
  · rintro ⟨h1, h2, h3⟩ k hk
    by_cases hbk : s.testBit k = true
    · rw [if_pos hbk]; exact ⟨fun e => h3 k hk e hbk, h1 k hk hbk⟩
    · rw [if_neg hbk]; exact fun e => hbk (h2 k hk e)
  · intro hw
    refine ⟨fun k hk hbk => ?_, fun k hk e => ?_, fun k hk e hbk => ?_⟩
    · have := hw k hk; rw [if_pos hbk] at this; exact this.2
    · refine Classical.byContradiction fun hbk => ?_
      have := hw k hk; rw [if_neg hbk] at this; exact this e
    · have := hw k hk; rw [if_pos hbk] at this; exact this.1 e
end FA
