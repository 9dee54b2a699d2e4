/-! ===== cells ===== -/
/-- a stroke of the model, in whole numbers -/
def SK (S : Nat → Int32) (L : Nat → Nat) (w h k x y c : Nat) : Prop := x < w ∧ y < h ∧ c < 4 ∧ 1 ≤ L k ∧ L k ≤ 9 ∧ roomN x y c (L k) w h ∧ S (7 + 4 * k) = nI x ∧ S (7 + 4 * k + 1) = nI y ∧ S (7 + 4 * k + 2) = nI c ∧ S (7 + 4 * k + 3) = nI (L k)
def cq (S : Nat → Int32) (k j : Nat) : Nat := ciS (S (7 + 4 * k)).toNatClampNeg (S (7 + 4 * k + 1)).toNatClampNeg (S (7 + 4 * k + 2)).toNatClampNeg j
theorem st_val : mstX (nI 0) = 1 ∧ mstY (nI 0) = 0 ∧ mstX (nI 1) = 0 ∧ mstY (nI 1) = 1 ∧ mstX (nI 2) = 1 ∧ mstY (nI 2) = 1 ∧ mstX (nI 3) = -1 ∧ mstY (nI 3) = 1 := by decide
theorem i_m1 (a b : Int32) : a + b * -1 = a - b := by grind
theorem i_m0 (a b : Int32) : a + b * 0 = a := by grind
theorem i_mo (a b : Int32) : a + b * 1 = a + b := by grind
section CE
variable {S : Nat → Int32} {L : Nat → Nat} {n w h : Nat}
theorem cell_xy {k x y c j : Nat} (hw : w ≤ 24) (hh : h ≤ 12) (hs : SK S L w h k x y c) (hj : j < L k) : ∃ a b, a < w ∧ b < h ∧ mX S k (nI j) = nI a ∧ mY S k (nI j) = nI b ∧ cq S k j = b * 24 + a := by
  obtain ⟨h1, h2, h3, h4, h5, h6, e1, e2, e3, e4⟩ := hs
  obtain ⟨s1, s2, s3, s4, s5, s6, s7, s8⟩ := st_val
  unfold mX mY cq
  rw [e1, e2, e3, nI_clamp (by omega), nI_clamp (by omega), nI_clamp (by omega)]
  unfold roomN at h6
  unfold ciS
  rcases (show c = 0 ∨ c = 1 ∨ c = 2 ∨ c = 3 by omega) with e | e | e | e
  · subst e
    rw [if_pos rfl] at h6 ⊢
    refine ⟨x + j, y, by omega, h2, ?_, ?_, by omega⟩
    · rw [s1, i_mo, nI_add]
    · rw [s2, i_m0]
  · subst e
    rw [if_neg (by omega), if_pos rfl] at h6 ⊢
    refine ⟨x, y + j, h1, by omega, ?_, ?_, rfl⟩
    · rw [s3, i_m0]
    · rw [s4, i_mo, nI_add]
  · subst e
    rw [if_neg (by omega), if_neg (by omega), if_pos rfl] at h6 ⊢
    refine ⟨x + j, y + j, by omega, by omega, ?_, ?_, by omega⟩
    · rw [s5, i_mo, nI_add]
    · rw [s6, i_mo, nI_add]
  · subst e
    rw [if_neg (by omega), if_neg (by omega), if_neg (by omega)] at h6 ⊢
    refine ⟨x - j, y + j, by omega, by omega, ?_, ?_, by omega⟩
    · rw [s7, i_m1, pk_sub (by omega)]
    · rw [s8, i_mo, nI_add]
/-- strokes in a cell of the page -/
theorem cov_iff {k x y c a b : Nat} (hw : w ≤ 24) (hh : h ≤ 12) (hs : SK S L w h k x y c) (ha : a < w) (hb : b < h) : (∃ i, i < L k ∧ mX S k (nI i) = nI a ∧ mY S k (nI i) = nI b) ↔ ∃ j, j < L k ∧ cq S k j = b * 24 + a := by
  constructor
  · rintro ⟨i, hi, e1, e2⟩
    obtain ⟨a', b', h1, h2, h3, h4, h5⟩ := cell_xy hw hh hs hi
    rw [h3, nI_eq (by omega) (by omega)] at e1
    rw [h4, nI_eq (by omega) (by omega)] at e2
    exact ⟨i, hi, by rw [h5, e1, e2]⟩
  · rintro ⟨i, hi, e⟩
    obtain ⟨a', b', h1, h2, h3, h4, h5⟩ := cell_xy hw hh hs hi
    have : a' = a ∧ b' = b := by omega
    exact ⟨i, hi, by rw [h3, this.1], by rw [h4, this.2]⟩
theorem same_iff {k k' x y c x' y' c' i j : Nat} (hw : w ≤ 24) (hh : h ≤ 12) (hs : SK S L w h k x y c) (hs' : SK S L w h k' x' y' c') (hi : i < L k) (hj : j < L k') : (mX S k' (nI j) = mX S k (nI i) ∧ mY S k' (nI j) = mY S k (nI i)) ↔ cq S k' j = cq S k i := by
  obtain ⟨a, b, h1, h2, h3, h4, h5⟩ := cell_xy hw hh hs hi
  obtain ⟨a', b', g1, g2, g3, g4, g5⟩ := cell_xy hw hh hs' hj
  rw [h3, h4, h5, g3, g4, g5, nI_eq (by omega) (by omega), nI_eq (by omega) (by omega)]
  omega
/-- they cross -/
theorem cmn_iff {a b x y c x' y' c' : Nat} (hw : w ≤ 24) (hh : h ≤ 12) (hs : SK S L w h a x y c) (hs' : SK S L w h b x' y' c') : cmn S L a b ≠ -1 ↔ ∃ i j, i < L a ∧ j < L b ∧ cq S b j = cq S a i := by
  unfold cmn fstv
  constructor
  · intro hne
    by_cases hl : fstN (fun i => ∃ j, j < L b ∧ mX S b (nI j) = mX S a (nI i) ∧ mY S b (nI j) = mY S a (nI i)) (L a) < L a
    · obtain ⟨j, hj, e1, e2⟩ := fstN_lt hl
      exact ⟨_, j, hl, hj, (same_iff hw hh hs hs' hl hj).mp ⟨e1, e2⟩⟩
    · rw [if_neg hl] at hne; exact absurd rfl hne
  · rintro ⟨i, j, hi, hj, e⟩
    have hl : fstN (fun i => ∃ j, j < L b ∧ mX S b (nI j) = mX S a (nI i) ∧ mY S b (nI j) = mY S a (nI i)) (L a) < L a := by
      refine Nat.lt_of_not_le fun hge => ?_
      exact fstN_min (P := fun i => ∃ j, j < L b ∧ mX S b (nI j) = mX S a (nI i) ∧ mY S b (nI j) = mY S a (nI i)) (show i < fstN (fun i => ∃ j, j < L b ∧ mX S b (nI j) = mX S a (nI i) ∧ mY S b (nI j) = mY S a (nI i)) (L a) by omega) ⟨j, hj, (same_iff hw hh hs hs' hi hj).mpr e⟩
    rw [if_pos hl]
    generalize fstN (fun i => ∃ j, j < L b ∧ mX S b (nI j) = mX S a (nI i) ∧ mY S b (nI j) = mY S a (nI i)) (L a) = z at hl
    obtain ⟨a', b', h1, h2, h3, h4, h5⟩ := cell_xy hw hh hs hl
    show 100 * mY S a (nI z) + mX S a (nI z) ≠ -1
    rw [h3, h4, show (100 : Int32) = nI 100 from rfl, pk_mul, nI_add]
    exact nI_nm1 (by omega)
theorem cmn_sym {a b x y c x' y' c' : Nat} (hw : w ≤ 24) (hh : h ≤ 12) (hs : SK S L w h a x y c) (hs' : SK S L w h b x' y' c') : cmn S L a b ≠ -1 ↔ cmn S L b a ≠ -1 := by
  rw [cmn_iff hw hh hs hs', cmn_iff hw hh hs' hs]
  exact ⟨fun ⟨i, j, a, b, c⟩ => ⟨j, i, b, a, c.symm⟩, fun ⟨i, j, a, b, c⟩ => ⟨j, i, b, a, c.symm⟩⟩
/-- the cells of the class's page -/
def CLs (S : Nat → Int32) (L : Nat → Nat) (n : Nat) (ce : Nat → Int32) : Prop := ∀ q, q < 288 → ∀ i, i < 32 → (bt (ce q) i = true ↔ i < n ∧ ∃ j, j < L i ∧ cq S i j = q)
def SKs (S : Nat → Int32) (L : Nat → Nat) (n w h : Nat) : Prop := ∀ k, k < n → ∃ x y c, SK S L w h k x y c
theorem SKs.ln (h1 : SKs S L n w h) : LN S n L := fun k hk => by
  obtain ⟨x, y, c, hs⟩ := h1 k hk
  exact ⟨hs.2.2.2.2.2.2.2.2.2, hs.2.2.2.2.1⟩
theorem thr_b {a b : Nat} {no : Int32} (hn : n ≤ 12) (hw : w ≤ 24) (hh : h ≤ 12) (hS : SKs S L n w h) (ha : a < w) (hb : b < h) {i : Nat} (hi : i < 32) : bt (thr S L (nI a) (nI b) no n) i = true ↔ i < n ∧ ¬ nI i = no ∧ ∃ j, j < L i ∧ cq S i j = b * 24 + a := by
  unfold thr
  rw [b_acc _ (by omega) hi, decide_eq_true_eq]
  constructor
  · rintro ⟨h1, h2, h3⟩
    obtain ⟨x, y, c, hs⟩ := hS i h1
    exact ⟨h1, h2, (cov_iff hw hh hs ha hb).mp h3⟩
  · rintro ⟨h1, h2, h3⟩
    obtain ⟨x, y, c, hs⟩ := hS i h1
    exact ⟨h1, h2, (cov_iff hw hh hs ha hb).mpr h3⟩
theorem at_thr {ce : Nat → Int32} {a b : Nat} (hn : n ≤ 12) (hw : w ≤ 24) (hh : h ≤ 12) (hS : SKs S L n w h) (hC : CLs S L n ce) (ha : a < w) (hb : b < h) : ce (b * 24 + a) = thr S L (nI a) (nI b) (-1) n := by
  apply b_ext
  intro i hi
  rw [Bool.eq_iff_iff, hC _ (by omega) i hi, thr_b hn hw hh hS ha hb hi]
  exact ⟨fun z => ⟨z.1, nI_nm1 (by omega), z.2⟩, fun z => ⟨z.1, z.2.2⟩⟩
theorem at_scr {ce : Nat → Int32} {a b s : Nat} (hn : n ≤ 12) (hw : w ≤ 24) (hh : h ≤ 12) (hS : SKs S L n w h) (hC : CLs S L n ce) (ha : a < w) (hb : b < h) (hs : s < n) : ce (b * 24 + a) &&& (sb s ^^^ (-1)) = thr S L (nI a) (nI b) (nI s) n := by
  apply b_ext
  intro i hi
  rw [Bool.eq_iff_iff, b_and, b_not _ hi, b_sb (by omega) hi, Bool.and_eq_true, hC _ (by omega) i hi, thr_b hn hw hh hS ha hb hi]
  constructor
  · rintro ⟨⟨h1, h2⟩, h3⟩
    refine ⟨h1, fun e => ?_, h2⟩
    rw [nI_eq (by omega) (by omega)] at e
    rw [decide_eq_true e] at h3; cases h3
  · rintro ⟨h1, h2, h3⟩
    refine ⟨⟨h1, h3⟩, ?_⟩
    rw [decide_eq_false (fun e => h2 (by rw [e]))]; rfl
/-- the top -/
theorem e_top {bl : Nat → Int32} {T : Int32} (hG : GS S n) (hb : ∀ k, k < n → bl k = cl S n k) : topv bl T n = fst1 (fun k => bt T k = true ∧ T &&& (cl S n k ^^^ (-1)) = sb k) n := by
  have hn := hG.n12
  unfold topv
  refine fst1_ext (fun k hk => ?_)
  rw [hb k hk]
  have hkk : bt (cl S n k) k = false := by
    cases h : bt (cl S n k) k
    · rfl
    · exact absurd ((cl_iff hk hk).mp h) (hG.ac k hk)
  constructor
  · rintro ⟨h1, h2⟩
    refine ⟨h1, b_ext (fun i hi => ?_)⟩
    rw [b_and, b_not _ hi, b_sb (by omega) hi]
    have h3 := (b_sub.mp h2) i hi
    by_cases e : i = k
    · rw [e, h1, hkk, decide_eq_true rfl]; rfl
    · rw [decide_eq_false e]
      cases hT : bt T i
      · rfl
      · have := h3 hT
        rw [b_or, b_sb (by omega) hi, decide_eq_false e, Bool.or_false] at this
        rw [this]; rfl
  · rintro ⟨h1, h2⟩
    refine ⟨h1, b_sub.mpr (fun i hi hT => ?_)⟩
    have h3 : bt (T &&& (cl S n k ^^^ (-1))) i = bt (sb k) i := by rw [h2]
    rw [b_and, b_not _ hi, b_sb (by omega) hi, hT, Bool.true_and] at h3
    rw [b_or, b_sb (by omega) hi, ← h3]
    cases bt (cl S n k) i <;> rfl
theorem mlow_b {t : Int32} {bl : Nat → Int32} {i : Nat} : ∀ m, bt (mlow t bl m) i = true ↔ bt t i = true ∨ ∃ k, k < m ∧ bt t k = true ∧ bt (bl k) i = true := by
  intro m
  induction m with
  | zero => exact ⟨.inl, fun h => h.elim id (fun ⟨k, hk, _⟩ => absurd hk (Nat.not_lt_zero k))⟩
  | succ m ih =>
    unfold mlow
    by_cases hb : bt t m = true
    · rw [if_pos hb, b_or, Bool.or_eq_true, ih]
      constructor
      · rintro ((h | ⟨k, h1, h2⟩) | h)
        · exact .inl h
        · exact .inr ⟨k, by omega, h2⟩
        · exact .inr ⟨m, by omega, hb, h⟩
      · rintro (h | ⟨k, h1, h2, h3⟩)
        · exact .inl (.inl h)
        · by_cases e : k = m
          · rw [e] at h3; exact .inr h3
          · exact .inl (.inr ⟨k, by omega, h2, h3⟩)
    · rw [if_neg hb, ih]
      constructor
      · rintro (h | ⟨k, h1, h2⟩)
        · exact .inl h
        · exact .inr ⟨k, by omega, h2⟩
      · rintro (h | ⟨k, h1, h2, h3⟩)
        · exact .inl h
        · by_cases e : k = m
          · rw [e] at h2; exact absurd h2 hb
          · exact .inr ⟨k, by omega, h2, h3⟩
theorem e_must {lo up : Int32} {bl : Nat → Int32} (hn : n ≤ 12) (hT : TBn S n) (hC : COn S n) (hb : ∀ k, k < n → bl k = cl S n k) (hH : HMk S n lo up) {k : Nat} (hk : k < n) : bt (mlow lo bl n) k = true ↔ lwM S n k = wyM S n := by
  rw [must_lo hn hT hC hk, mlow_b]
  constructor
  · rintro (h | ⟨i, h1, h2, h3⟩)
    · exact .inl ((hH k (by omega)).1.mp h).2
    · rw [hb i h1] at h3
      exact .inr ⟨i, h1, ((hH i (by omega)).1.mp h2).2, (cl_iff h1 hk).mp h3⟩
  · rintro (h | ⟨i, h1, h2, h3⟩)
    · exact .inl ((hH k (by omega)).1.mpr ⟨hk, h⟩)
    · exact .inr ⟨i, h1, (hH i (by omega)).1.mpr ⟨h1, h2⟩, by rw [hb i h1]; exact (cl_iff h1 hk).mpr h3⟩
/-- what is seen -/
theorem e_seen {lo up T x y no : Int32} {bl : Nat → Int32} (hG : GS S n) (hb : ∀ k, k < n → bl k = cl S n k) (hH : HMk S n lo up) (hT : T = thr S L x y no n) : seenv bl n T (mlow lo bl n) = senM S L n x y no := by
  have hn := hG.n12
  have et : topv bl (thr S L x y no n) n = topM S L n x y no := e_top hG hb
  unfold seenv senM
  rw [hT, et]
  by_cases h0 : thr S L x y no n = 0
  · rw [if_pos h0, if_pos h0]
  · rw [if_neg h0, if_neg h0]
    rcases fst1_cases (fun k => bt (thr S L x y no n) k = true ∧ thr S L x y no n &&& (cl S n k ^^^ (-1)) = sb k) n with e | ⟨k, hk, e, -⟩
    · rw [show topM S L n x y no = -1 from e, if_neg (fun z => z.1 rfl), if_neg (fun z => z.1 rfl)]
    · rw [show topM S L n x y no = nI k from e, nI_clamp (by omega)]
      have h1 := e_must hn hG.tb hG.co hb hH hk
      have h2 : (¬ mlow lo bl n >>> (nI k &&& 31) &&& 1 = 0) ↔ bt (mlow lo bl n) k = true := by
        rw [tst0 (by omega)]; cases bt (mlow lo bl n) k <;> simp
      by_cases c : bt (mlow lo bl n) k = true
      · rw [if_pos ⟨nI_nm1 (by omega), h2.mpr c⟩, if_pos ⟨nI_nm1 (by omega), h1.mp c⟩]
      · rw [if_neg (fun z => c (h2.mp z.2)), if_neg (fun z => c (h1.mpr z.2))]
theorem senM_val {x y no : Int32} : senM S L n x y no = 0 ∨ senM S L n x y no = 1 ∨ senM S L n x y no = 2 := by
  unfold senM
  split
  · exact .inl rfl
  · split
    · exact .inr (.inl rfl)
    · exact .inr (.inr rfl)
theorem lkv_b (f : Nat → Int32) {b : Nat} (hb : b < 32) : ∀ m, m ≤ 9 → (bt (lkv f m) b = true ↔ (b < m ∧ f b = 0) ∨ (9 ≤ b ∧ b < 9 + m ∧ f (b - 9) = 1)) := by
  intro m
  induction m with
  | zero => intro _; show bt 0 b = true ↔ _; rw [b_0]; exact ⟨fun h => (by cases h), fun h => by omega⟩
  | succ m ih =>
    intro hm
    have ih := ih (by omega)
    unfold lkv
    by_cases h1 : f m = 1
    · have h0 : ¬ f m = 0 := by rw [h1]; decide
      rw [if_pos h1, if_neg h0, b_or, Bool.or_eq_true, ih, b_sb (by omega) hb, decide_eq_true_eq]
      constructor
      · rintro ((⟨a, c⟩ | ⟨a, c, e⟩) | a)
        · exact .inl ⟨by omega, c⟩
        · exact .inr ⟨a, by omega, e⟩
        · exact .inr ⟨by omega, by omega, by rw [show b - 9 = m by omega]; exact h1⟩
      · rintro (⟨a, c⟩ | ⟨a, c, e⟩)
        · have : b ≠ m := fun q => by rw [q] at c; exact h0 c
          exact .inl (.inl ⟨by omega, c⟩)
        · by_cases q : b = m + 9
          · exact .inr q
          · exact .inl (.inr ⟨a, by omega, e⟩)
    · rw [if_neg h1]
      by_cases h0 : f m = 0
      · rw [if_pos h0, b_or, Bool.or_eq_true, ih, b_sb (by omega) hb, decide_eq_true_eq]
        constructor
        · rintro ((⟨a, c⟩ | ⟨a, c, e⟩) | a)
          · exact .inl ⟨by omega, c⟩
          · exact .inr ⟨a, by omega, e⟩
          · exact .inl ⟨by omega, by rw [a]; exact h0⟩
        · rintro (⟨a, c⟩ | ⟨a, c, e⟩)
          · by_cases q : b = m
            · exact .inr q
            · exact .inl (.inl ⟨by omega, c⟩)
          · have : b - 9 ≠ m := fun q => by rw [q] at e; exact h1 e
            exact .inl (.inr ⟨a, by omega, e⟩)
      · rw [if_neg h0, ih]
        constructor
        · rintro (⟨a, c⟩ | ⟨a, c, e⟩)
          · exact .inl ⟨by omega, c⟩
          · exact .inr ⟨a, by omega, e⟩
        · rintro (⟨a, c⟩ | ⟨a, c, e⟩)
          · have : b ≠ m := fun q => by rw [q] at c; exact h0 c
            exact .inl ⟨by omega, c⟩
          · have : b - 9 ≠ m := fun q => by rw [q] at e; exact h1 e
            exact .inr ⟨a, by omega, e⟩
theorem b_511 : ∀ i, i < 32 → bt 511 i = decide (i < 9) := by decide +kernel
theorem lk_em (f : Nat → Int32) : emv (lkv f 9) = acc (fun i => f i = 0) 9 := by
  apply b_ext
  intro i hi
  unfold emv
  rw [Bool.eq_iff_iff, b_and, b_511 i hi, Bool.and_eq_true, decide_eq_true_eq, lkv_b f hi 9 (Nat.le_refl _), b_acc _ (by omega) hi, decide_eq_true_eq]
  constructor
  · rintro ⟨h | h, h9⟩
    · exact h
    · omega
  · intro h; exact ⟨.inl h, h.1⟩
theorem lk_sh (f : Nat → Int32) : shv (lkv f 9) = acc (fun i => f i = 1) 9 := by
  apply b_ext
  intro i hi
  unfold shv
  rw [Bool.eq_iff_iff, b_and, b_511 i hi, Bool.and_eq_true, decide_eq_true_eq, b_acc _ (by omega) hi, decide_eq_true_eq]
  by_cases h9 : i < 9
  · have e : bt (lkv f 9 >>> ((9 : Int32) &&& 31)) i = bt (lkv f 9) (9 + i) := by
      have := b_sshr 9 (by omega) (lkv f 9) hi
      rw [if_pos (by omega)] at this
      exact this
    rw [e, lkv_b f (by omega) 9 (Nat.le_refl _)]
    constructor
    · rintro ⟨h | h, -⟩
      · omega
      · exact ⟨h9, by rw [show 9 + i - 9 = i by omega] at h; exact h.2.2⟩
    · rintro ⟨-, h⟩; exact ⟨.inr ⟨by omega, by omega, by rw [show 9 + i - 9 = i by omega]; exact h⟩, h9⟩
  · exact ⟨fun h => absurd h.2 h9, fun h => absurd h.1 h9⟩
theorem lk_hd {f : Nat → Int32} (hf : ∀ i, i < 9 → f i = 0 ∨ f i = 1 ∨ f i = 2) : hdv (lkv f 9) = acc (fun i => f i = 2) 9 := by
  apply b_ext
  intro i hi
  unfold hdv
  rw [lk_em, lk_sh, Bool.eq_iff_iff, b_and, b_511 i hi, b_not _ hi, b_or, b_acc _ (by omega) hi, b_acc _ (by omega) hi, b_acc _ (by omega) hi]
  by_cases h9 : i < 9
  · rcases hf i h9 with e | e | e
    · simp [h9, e]
    · simp [h9, e]
    · simp [h9, e]
  · simp [h9]
end CE
