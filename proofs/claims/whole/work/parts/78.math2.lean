/-! ===== ways of hands ===== -/
abbrev tT (S : Nat → Int32) : Nat → Int32 := fun k => S (195 + k)
def TBn (S : Nat → Int32) (n : Nat) : Prop := ∀ k, k < n → ∀ i, n ≤ i → i < 32 → bt (S (195 + k)) i = false
def COn (S : Nat → Int32) (n : Nat) : Prop := ∀ i j, i < n → j < n → S (183 + i) = 1 → S (183 + j) = 2 → ¬ ovr (tT S) n i j
/-- a state of strokes that can be: no ring, a way of hands -/
def GS (S : Nat → Int32) (n : Nat) : Prop := n ≤ 12 ∧ TBn S n ∧ (∀ k, k < n → ¬ ovr (tT S) n k k) ∧ (∀ k, k < n → S (183 + k) = 0 ∨ S (183 + k) = 1 ∨ S (183 + k) = 2) ∧ COn S n
theorem GS.n12 {S : Nat → Int32} {n : Nat} (h : GS S n) : n ≤ 12 := h.1
theorem GS.tb {S : Nat → Int32} {n : Nat} (h : GS S n) : TBn S n := h.2.1
theorem GS.ac {S : Nat → Int32} {n : Nat} (h : GS S n) : ∀ k, k < n → ¬ ovr (tT S) n k k := h.2.2.1
theorem GS.hv {S : Nat → Int32} {n : Nat} (h : GS S n) : ∀ k, k < n → S (183 + k) = 0 ∨ S (183 + k) = 1 ∨ S (183 + k) = 2 := h.2.2.2.1
theorem GS.co {S : Nat → Int32} {n : Nat} (h : GS S n) : COn S n := h.2.2.2.2
theorem nsetE (P : Nat → Prop) {n : Nat} (hn : n ≤ 12) : ∃ m, m < 2 ^ n ∧ ∀ i, i < n → (m.testBit i = true ↔ P i) := by
  have inst : DecidablePred P := fun _ => Classical.propDecidable _
  obtain ⟨m, hm, e⟩ := msk (x := @acc P inst n) (n := n) (by omega) (fun i h1 h2 => by rw [b_acc _ (by omega) h2, decide_eq_false (fun z => absurd z.1 (by omega))])
  refine ⟨m, hm, fun i hi => ?_⟩
  rw [← b_nI (a := m) (i := i) (by omega), ← e, b_acc _ (by omega) (by omega), decide_eq_true_eq]
  exact ⟨fun z => z.2, fun z => ⟨hi, z⟩⟩
theorem wcn_pos {P : Nat → Prop} [DecidablePred P] {k : Nat} : wcn P k ≠ 0 ↔ ∃ i, i < k ∧ P i := by
  induction k with
  | zero => exact ⟨fun h => absurd rfl h, fun ⟨i, h, _⟩ => absurd h (Nat.not_lt_zero i)⟩
  | succ k ih =>
    unfold wcn
    by_cases hp : P k
    · rw [if_pos hp]; exact ⟨fun _ => ⟨k, by omega, hp⟩, fun _ => by omega⟩
    · rw [if_neg hp, ih]
      exact ⟨fun ⟨i, a, b⟩ => ⟨i, by omega, b⟩, fun ⟨i, a, b⟩ => ⟨i, by
        rcases Nat.lt_or_ge i k with h | h
        · exact h
        · rw [show i = k by omega] at b; exact absurd b hp, b⟩⟩
theorem wcn_all {P R : Nat → Prop} [DecidablePred P] [DecidablePred R] {k : Nat} : wcn (fun i => P i ∧ R i) k = wcn P k ↔ ∀ i, i < k → P i → R i := by
  have le : ∀ k, wcn (fun i => P i ∧ R i) k ≤ wcn P k := by
    intro k
    induction k with
    | zero => exact Nat.le_refl _
    | succ k ih =>
      unfold wcn
      by_cases hp : P k
      · by_cases hr : R k
        · rw [if_pos ⟨hp, hr⟩, if_pos hp]; omega
        · rw [if_neg (fun z => hr z.2), if_pos hp]; omega
      · rw [if_neg (fun z => hp z.1), if_neg hp]; exact ih
  induction k with
  | zero => exact ⟨fun _ i h => absurd h (Nat.not_lt_zero i), fun _ => rfl⟩
  | succ k ih =>
    have l := le k
    unfold wcn
    by_cases hp : P k
    · by_cases hr : R k
      · rw [if_pos ⟨hp, hr⟩, if_pos hp]
        constructor
        · intro h i hi hpi
          rcases Nat.lt_or_ge i k with h' | h'
          · exact ih.mp (by omega) i h' hpi
          · rw [show i = k by omega]; exact hr
        · intro h
          have := ih.mpr (fun i hi => h i (by omega))
          omega
      · rw [if_neg (fun z => hr z.2), if_pos hp]
        exact ⟨fun h => by omega, fun h => absurd (h k (by omega) hp) hr⟩
    · rw [if_neg (fun z => hp z.1), if_neg hp]
      refine ih.trans ⟨fun h i hi hpi => by
        rcases Nat.lt_or_ge i k with h' | h'
        · exact h i h' hpi
        · rw [show i = k by omega] at hpi; exact absurd hpi hp, fun h i hi => h i (by omega)⟩
section WY
variable {S : Nat → Int32} {n : Nat}
/-- a way, by its lower strokes -/
def isW (S : Nat → Int32) (n s : Nat) : Prop := ∀ k, k < n → (s.testBit k = true → S (183 + k) ≠ 2 ∧ ∀ i, ovr (tT S) n k i → s.testBit i = true) ∧ (¬ s.testBit k = true → S (183 + k) ≠ 1)
theorem wyP_iff (hn : n ≤ 12) (hT : TBn S n) {s : Nat} : wyP S (cl S n) n s ↔ isW S n s := by
  have key : ∀ k, k < n → (cl S n k &&& (nI s ^^^ (-1)) = 0 ↔ ∀ i, ovr (tT S) n k i → s.testBit i = true) := by
    intro k hk
    rw [b_sub]
    constructor
    · intro h i hi
      have hl := hi.lt
      have := h i (by omega) ((cl_iff hk hl).mpr hi)
      rw [b_nI (by omega)] at this
      exact this
    · intro h i hi hb
      have hin : i < n := by
        refine Nat.lt_of_not_le fun hge => ?_
        rw [cl_hi hT hk hge hi] at hb; cases hb
      rw [b_nI hi]
      exact h i ((cl_iff hk hin).mp hb)
  constructor
  · intro h k hk
    have := h k hk
    refine ⟨fun hb => ?_, fun hb => ?_⟩
    · rw [if_pos hb] at this; exact ⟨this.1, (key k hk).mp this.2⟩
    · rw [if_neg hb] at this; exact this
  · intro h k hk
    by_cases hb : s.testBit k = true
    · rw [if_pos hb]; exact ⟨((h k hk).1 hb).1, (key k hk).mpr ((h k hk).1 hb).2⟩
    · rw [if_neg hb]; exact (h k hk).2 hb
/-- the least and the greatest way -/
theorem way_lo (hn : n ≤ 12) (hC : COn S n) : ∃ m, m < 2 ^ n ∧ isW S n m ∧ ∀ k, k < n → (m.testBit k = true ↔ (S (183 + k) = 1 ∨ ∃ i, i < n ∧ S (183 + i) = 1 ∧ ovr (tT S) n i k)) := by
  obtain ⟨m, hm, hb⟩ := nsetE (fun k => S (183 + k) = 1 ∨ ∃ i, i < n ∧ S (183 + i) = 1 ∧ ovr (tT S) n i k) hn
  refine ⟨m, hm, fun k hk => ⟨fun h => ?_, fun h e => h ((hb k hk).mpr (.inl e))⟩, hb⟩
  rcases (hb k hk).mp h with h1 | ⟨i, hi, h1, h2⟩
  · refine ⟨by rw [h1]; decide, fun x hx => (hb x hx.lt).mpr (.inr ⟨k, hk, h1, hx⟩)⟩
  · exact ⟨fun e => hC i k hi hk h1 e h2, fun x hx => (hb x hx.lt).mpr (.inr ⟨i, hi, h1, h2.trans hx⟩)⟩
theorem way_hi (hn : n ≤ 12) (hC : COn S n) : ∃ m, m < 2 ^ n ∧ isW S n m ∧ ∀ k, k < n → (m.testBit k = true ↔ ¬ (S (183 + k) = 2 ∨ ∃ i, i < n ∧ S (183 + i) = 2 ∧ ovr (tT S) n k i)) := by
  obtain ⟨m, hm, hb⟩ := nsetE (fun k => ¬ (S (183 + k) = 2 ∨ ∃ i, i < n ∧ S (183 + i) = 2 ∧ ovr (tT S) n k i)) hn
  refine ⟨m, hm, fun k hk => ⟨fun h => ?_, fun h e => ?_⟩, hb⟩
  · have h1 := (hb k hk).mp h
    refine ⟨fun e => h1 (.inl e), fun x hx => (hb x hx.lt).mpr (fun z => ?_)⟩
    rcases z with z | ⟨i, hi, z1, z2⟩
    · exact h1 (.inr ⟨x, hx.lt, z, hx⟩)
    · exact h1 (.inr ⟨i, hi, z1, hx.trans z2⟩)
  · refine h ((hb k hk).mpr (fun z => ?_))
    rcases z with z | ⟨i, hi, z1, z2⟩
    · rw [e] at z; exact absurd z (by decide)
    · exact hC k i hk hi e z1 z2
theorem wy_pos (hn : n ≤ 12) (hT : TBn S n) : wyM S n ≠ 0 ↔ COn S n := by
  unfold wyM wyN
  rw [wcn_pos]
  constructor
  · rintro ⟨s, hs, hw⟩ i j hi hj h1 h2 ho
    have hw := (wyP_iff hn hT).mp hw
    have hbi : s.testBit i = true := Classical.byContradiction fun hh => (hw i hi).2 hh h1
    have hbj := ((hw i hi).1 hbi).2 j ho
    exact ((hw j hj).1 hbj).1 h2
  · intro hC
    obtain ⟨m, hm, hw, -⟩ := way_lo hn hC
    exact ⟨m, hm, (wyP_iff hn hT).mpr hw⟩
theorem must_lo (hn : n ≤ 12) (hT : TBn S n) (hC : COn S n) {k : Nat} (hk : k < n) : lwM S n k = wyM S n ↔ (S (183 + k) = 1 ∨ ∃ i, i < n ∧ S (183 + i) = 1 ∧ ovr (tT S) n i k) := by
  unfold lwM lwN wyM wyN
  rw [wcn_all]
  constructor
  · intro h
    obtain ⟨m, hm, hw, hb⟩ := way_lo hn hC
    exact (hb k hk).mp (h m hm ((wyP_iff hn hT).mpr hw))
  · intro h s hs hw
    have hw := (wyP_iff hn hT).mp hw
    rcases h with h | ⟨i, hi, h1, h2⟩
    · exact Classical.byContradiction fun hh => (hw k hk).2 hh h
    · exact ((hw i hi).1 (Classical.byContradiction fun hh => (hw i hi).2 hh h1)).2 k h2
theorem must_up (hn : n ≤ 12) (hT : TBn S n) (hC : COn S n) {k : Nat} (hk : k < n) : lwM S n k = 0 ↔ (S (183 + k) = 2 ∨ ∃ i, i < n ∧ S (183 + i) = 2 ∧ ovr (tT S) n k i) := by
  constructor
  · intro h
    refine Classical.byContradiction fun hno => ?_
    obtain ⟨m, hm, hw, hb⟩ := way_hi hn hC
    have : lwM S n k ≠ 0 := by
      unfold lwM lwN
      rw [wcn_pos]
      exact ⟨m, hm, (wyP_iff hn hT).mpr hw, (hb k hk).mpr hno⟩
    exact this h
  · intro h
    refine Classical.byContradiction fun hne => ?_
    have hne : wcn (fun s => wyP S (cl S n) n s ∧ s.testBit k = true) (2 ^ n) ≠ 0 := hne
    rw [wcn_pos] at hne
    obtain ⟨s, hs, hw, hb⟩ := hne
    have hw := (wyP_iff hn hT).mp hw
    rcases h with h | ⟨i, hi, h1, h2⟩
    · exact ((hw k hk).1 hb).1 h
    · exact ((hw i hi).1 (((hw k hk).1 hb).2 i h2)).1 h1
/-- told lower, told upper, as bits -/
def HMk (S : Nat → Int32) (n : Nat) (lo up : Int32) : Prop := ∀ i, i < 32 → (bt lo i = true ↔ i < n ∧ S (183 + i) = 1) ∧ (bt up i = true ↔ i < n ∧ S (183 + i) = 2)
theorem hand_way {bl ab : Nat → Int32} {lo up v : Int32} {i : Nat} (hG : GS S n) (hi : i < n) (hH : HMk S n lo up) (hB : CLO (tT S) n bl ab) (hv : v = -1 ∨ v = 0 ∨ v = 1) :
    ((v = 0 ∧ ¬ up &&& bl i = 0) ∨ (v = 1 ∧ ¬ lo &&& ab i = 0)) ↔ wyM (upd S (183 + i) (v + 1)) n = 0 := by
  have hn := hG.n12
  have hT' : TBn (upd S (183 + i) (v + 1)) n := fun k hk x h1 h2 => by rw [pk_un (by omega)]; exact hG.tb k hk x h1 h2
  have eT : tT (upd S (183 + i) (v + 1)) = tT S ∨ True := .inr trivial
  have ho : ∀ a b, a < n → (ovr (tT (upd S (183 + i) (v + 1))) n a b ↔ ovr (tT S) n a b) := fun a b ha => ovr_ext (fun k hk j hj => by show bt (upd S (183 + i) (v + 1) (195 + k)) j = _; rw [pk_un (by omega)]) ha
  have hc := wy_pos hn hT'
  rw [show (wyM (upd S (183 + i) (v + 1)) n = 0) = ¬ (wyM (upd S (183 + i) (v + 1)) n ≠ 0) from propext ⟨fun h z => z h, fun h => Classical.not_not.mp h⟩, hc]
  constructor
  · rintro (⟨e, h⟩ | ⟨e, h⟩) hC
    · rw [b_meet] at h
      obtain ⟨x, hx, h1, h2⟩ := h
      have h1 := ((hH x hx).2).mp h1
      have h2 := ((hB i hi x hx).1).mp h2
      have hne : 183 + x ≠ 183 + i := fun q => by
        have : x = i := by omega
        rw [this] at h2; exact hG.ac i hi h2.2
      refine hC i x hi h1.1 (by rw [pk_us, e]; rfl) (by rw [pk_un hne]; exact h1.2) ((ho i x hi).mpr h2.2)
    · rw [b_meet] at h
      obtain ⟨x, hx, h1, h2⟩ := h
      have h1 := ((hH x hx).1).mp h1
      have h2 := ((hB i hi x hx).2).mp h2
      have hne : 183 + x ≠ 183 + i := fun q => by
        have : x = i := by omega
        rw [this] at h2; exact hG.ac i hi h2.2
      refine hC x i h1.1 hi (by rw [pk_un hne]; exact h1.2) (by rw [pk_us, e]; rfl) ((ho x i h1.1).mpr h2.2)
  · intro hC
    refine Classical.byContradiction fun hno => hC (fun a b ha hb h1 h2 h3 => ?_)
    have h3 := (ho a b ha).mp h3
    by_cases ea : a = i
    · by_cases eb : b = i
      · rw [ea, eb] at h3; exact hG.ac i hi h3
      · rw [ea, pk_us] at h1
        rw [pk_un (by omega)] at h2
        rw [ea] at h3
        refine hno (.inl ⟨?_, ?_⟩)
        · rcases hv with e | e | e
          · rw [e] at h1; exact absurd h1 (by decide)
          · exact e
          · rw [e] at h1; exact absurd h1 (by decide)
        · rw [b_meet]
          exact ⟨b, by omega, ((hH b (by omega)).2).mpr ⟨hb, h2⟩, ((hB i hi b (by omega)).1).mpr ⟨hb, h3⟩⟩
    · rw [pk_un (by omega)] at h1
      by_cases eb : b = i
      · rw [eb, pk_us] at h2
        rw [eb] at h3
        refine hno (.inr ⟨?_, ?_⟩)
        · rcases hv with e | e | e
          · rw [e] at h2; exact absurd h2 (by decide)
          · rw [e] at h2; exact absurd h2 (by decide)
          · exact e
        · rw [b_meet]
          exact ⟨a, by omega, ((hH a (by omega)).1).mpr ⟨ha, h1⟩, ((hB i hi a (by omega)).2).mpr ⟨ha, h3⟩⟩
      · rw [pk_un (by omega)] at h2
        exact hG.co a b ha hb h1 h2 h3
theorem tld_b {i j : Nat} (hn : n ≤ 12) (hj : j < n) : ∀ k, k < n → ∀ x, x < n → (bt (tT (tldM S i j) k) x = true ↔ bt (tT S k) x = true ∨ (k = i ∧ x = j)) := by
  intro k hk x hx
  show bt (upd S (195 + i) (S (195 + i) ||| sb j) (195 + k)) x = true ↔ _
  by_cases e : k = i
  · rw [e, pk_us, b_or, b_sb (by omega) (by omega), Bool.or_eq_true, decide_eq_true_eq]
    exact ⟨fun z => z.elim .inl (fun q => .inr ⟨rfl, q⟩), fun z => z.elim .inl (fun q => .inr q.2)⟩
  · rw [pk_un (by omega)]
    exact ⟨.inl, fun z => z.elim id (fun q => absurd q.1 e)⟩
theorem tld_tb {i j : Nat} (hT : TBn S n) (hn : n ≤ 12) (hj : j < n) : TBn (tldM S i j) n := by
  intro k hk x h1 h2
  show bt (upd S (195 + i) (S (195 + i) ||| sb j) (195 + k)) x = false
  by_cases e : k = i
  · rw [e, pk_us, b_or, b_sb (by omega) h2, decide_eq_false (by omega), Bool.or_false, ← e]; exact hT k hk x h1 h2
  · rw [pk_un (by omega)]; exact hT k hk x h1 h2
theorem tld_h {i j k : Nat} (hk : k < 12) : tldM S i j (183 + k) = S (183 + k) := pk_un (by omega)
theorem link_way {bl ab : Nat → Int32} {lo up : Int32} {i j : Nat} (hG : GS S n) (hi : i < n) (hj : j < n) (hH : HMk S n lo up) (hB : CLO (tT S) n bl ab) :
    (¬ lo &&& (ab i ||| sb i) = 0 ∧ ¬ up &&& (bl j ||| sb j) = 0) ↔ wyM (tldM S i j) n = 0 := by
  have hn := hG.n12
  have hT' := tld_tb (i := i) hG.tb hn hj
  have hc := wy_pos hn hT'
  rw [show (wyM (tldM S i j) n = 0) = ¬ (wyM (tldM S i j) n ≠ 0) from propext ⟨fun h z => z h, fun h => Classical.not_not.mp h⟩, hc]
  have hl : ¬ lo &&& (ab i ||| sb i) = 0 ↔ ∃ a, a < n ∧ S (183 + a) = 1 ∧ (a = i ∨ ovr (tT S) n a i) := by
    rw [b_meet]
    constructor
    · rintro ⟨x, hx, h1, h2⟩
      have h1 := ((hH x hx).1).mp h1
      refine ⟨x, h1.1, h1.2, ?_⟩
      rw [b_or, b_sb (by omega) hx, Bool.or_eq_true, decide_eq_true_eq, (hB i hi x hx).2] at h2
      exact h2.elim (fun z => .inr z.2) .inl
    · rintro ⟨a, ha, h1, h2⟩
      refine ⟨a, by omega, ((hH a (by omega)).1).mpr ⟨ha, h1⟩, ?_⟩
      rw [b_or, b_sb (by omega) (by omega), Bool.or_eq_true, decide_eq_true_eq, (hB i hi a (by omega)).2]
      exact h2.elim .inr (fun z => .inl ⟨ha, z⟩)
  have hu : ¬ up &&& (bl j ||| sb j) = 0 ↔ ∃ b, b < n ∧ S (183 + b) = 2 ∧ (b = j ∨ ovr (tT S) n j b) := by
    rw [b_meet]
    constructor
    · rintro ⟨x, hx, h1, h2⟩
      have h1 := ((hH x hx).2).mp h1
      refine ⟨x, h1.1, h1.2, ?_⟩
      rw [b_or, b_sb (by omega) hx, Bool.or_eq_true, decide_eq_true_eq, (hB j hj x hx).1] at h2
      exact h2.elim (fun z => .inr z.2) .inl
    · rintro ⟨a, ha, h1, h2⟩
      refine ⟨a, by omega, ((hH a (by omega)).2).mpr ⟨ha, h1⟩, ?_⟩
      rw [b_or, b_sb (by omega) (by omega), Bool.or_eq_true, decide_eq_true_eq, (hB j hj a (by omega)).1]
      exact h2.elim .inr (fun z => .inl ⟨ha, z⟩)
  rw [hl, hu]
  constructor
  · rintro ⟨⟨a, ha, h1, h2⟩, ⟨b, hb, h3, h4⟩⟩ hC
    exact hC a b ha hb ((tld_h (by omega)).trans h1) ((tld_h (by omega)).trans h3) ((ovr_add hi hj (tld_b hn hj) ha).mpr (.inr ⟨h2, h4⟩))
  · intro hC
    refine Classical.byContradiction fun hno => hC (fun a b ha hb h1 h2 h3 => ?_)
    rw [tld_h (by omega)] at h1 h2
    rcases (ovr_add hi hj (tld_b hn hj) ha).mp h3 with h3 | ⟨h3, h4⟩
    · exact hG.co a b ha hb h1 h2 h3
    · exact hno ⟨⟨a, ha, h1, h3⟩, ⟨b, hb, h2, h4⟩⟩
/-- a good state stays good, told one more -/
theorem GS.tld {i j : Nat} (hG : GS S n) (hi : i < n) (hj : j < n) (hr : ¬ ovr (tT S) n j i) (hij : i ≠ j) (hw : wyM (tldM S i j) n ≠ 0) : GS (tldM S i j) n := by
  have hn := hG.n12
  refine ⟨hn, tld_tb hG.tb hn hj, fun k hk ho => ?_, fun k hk => by rw [tld_h (by omega)]; exact hG.hv k hk, (wy_pos hn (tld_tb hG.tb hn hj)).mp hw⟩
  rcases (ovr_add hi hj (tld_b hn hj) hk).mp ho with h | ⟨h1, h2⟩
  · exact hG.ac k hk h
  · rcases h1 with h1 | h1
    · rcases h2 with h2 | h2
      · exact hij (by omega)
      · rw [h1] at h2; exact hr h2
    · rcases h2 with h2 | h2
      · rw [h2] at h1; exact hr h1
      · exact hr (h2.trans h1)
end WY
