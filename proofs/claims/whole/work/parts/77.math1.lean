/-! ===== chains: one more edge, all made anew ===== -/
def CLO (T : Nat → Int32) (n : Nat) (bl ab : Nat → Int32) : Prop := ∀ k, k < n → ∀ j, j < 32 → (bt (bl k) j = true ↔ j < n ∧ ovr T n k j) ∧ (bt (ab k) j = true ↔ j < n ∧ ovr T n j k)
theorem ovr_add {T T' : Nat → Int32} {n i j : Nat} (hi : i < n) (hj : j < n) (hT : ∀ k, k < n → ∀ x, x < n → (bt (T' k) x = true ↔ bt (T k) x = true ∨ (k = i ∧ x = j))) {k m : Nat} (hk : k < n) :
    ovr T' n k m ↔ ovr T n k m ∨ ((k = i ∨ ovr T n k i) ∧ (m = j ∨ ovr T n j m)) := by
  constructor
  · rintro ⟨x, hp⟩
    induction x generalizing k with
    | zero =>
      obtain ⟨y, hy, hb, e⟩ := hp
      rw [show y = m from e] at hb hy
      rcases (hT k hk m hy).mp hb with h | h
      · exact .inl (ovr.edge hy h)
      · exact .inr ⟨.inl h.1, .inl h.2⟩
    | succ x ih =>
      obtain ⟨y, hy, hb, hp⟩ := hp
      have ih := ih hy hp
      rcases (hT k hk y hy).mp hb with h | ⟨h1, h2⟩
      · have hky : ovr T n k y := ovr.edge hy h
        rcases ih with h3 | ⟨h3, h4⟩
        · exact .inl (hky.trans h3)
        · refine .inr ⟨.inr ?_, h4⟩
          rcases h3 with h3 | h3
          · rw [← h3]; exact hky
          · exact hky.trans h3
      · refine .inr ⟨.inl h1, ?_⟩
        rw [h2] at ih
        rcases ih with h3 | ⟨-, h4⟩
        · exact .inr h3
        · exact h4
  · have mono : ∀ {a b : Nat}, a < n → ovr T n a b → ovr T' n a b := by
      rintro a b ha ⟨x, hp⟩
      refine ⟨x, ?_⟩
      generalize x + 1 = y at hp
      induction y generalizing a with
      | zero => exact hp
      | succ y ih =>
        obtain ⟨z, hz, hb, hp⟩ := hp
        exact ⟨z, hz, (hT a ha z hz).mpr (.inl hb), ih hz hp⟩
    rintro (h | ⟨h1, h2⟩)
    · exact mono hk h
    · have e : ovr T' n i j := ovr.edge hj ((hT i hi j hj).mpr (.inr ⟨rfl, rfl⟩))
      have a : ovr T' n k j := by
        rcases h1 with h1 | h1
        · rw [h1]; exact e
        · exact (mono hk h1).trans e
      rcases h2 with h2 | h2
      · rw [h2]; exact a
      · exact a.trans (mono hj h2)
theorem chs_clo {T T' bl ab : Nat → Int32} {n i j : Nat} (hn : n ≤ 12) (hi : i < n) (hj : j < n) (h : CLO T n bl ab) (hT : ∀ k, k < n → ∀ x, x < n → (bt (T' k) x = true ↔ bt (T k) x = true ∨ (k = i ∧ x = j))) : CLO T' n (chs n i j (bl, ab)).1 (chs n i j (bl, ab)).2 := by
  intro k hk x hx
  have hki := (h i hi k (by omega)).2
  have hkj := (h j hj k (by omega)).1
  have up : bt (ab i ||| sb i) k = true ↔ (ovr T n k i ∨ k = i) := by
    rw [b_or, Bool.or_eq_true, b_sb (by omega) (by omega), decide_eq_true_eq, hki]
    exact ⟨fun z => z.elim (fun q => .inl q.2) .inr, fun z => z.elim (fun q => .inl ⟨hk, q⟩) .inr⟩
  have dn : bt (bl j ||| sb j) k = true ↔ (ovr T n j k ∨ k = j) := by
    rw [b_or, Bool.or_eq_true, b_sb (by omega) (by omega), decide_eq_true_eq, hkj]
    exact ⟨fun z => z.elim (fun q => .inl q.2) .inr, fun z => z.elim (fun q => .inl ⟨hk, q⟩) .inr⟩
  constructor
  · show bt (if k < n ∧ bt (ab i ||| sb i) k = true then bl k ||| (bl j ||| sb j) else bl k) x = true ↔ _
    have hb := (h k hk x hx).1
    have hbj := (h j hj x hx).1
    by_cases hu : bt (ab i ||| sb i) k = true
    · rw [if_pos ⟨hk, hu⟩, b_or, b_or, b_sb (by omega) hx, Bool.or_eq_true, Bool.or_eq_true, decide_eq_true_eq, hb, hbj]
      constructor
      · rintro (⟨a, b⟩ | ⟨a, b⟩ | a)
        · exact ⟨a, (ovr_add hi hj hT hk).mpr (.inl b)⟩
        · exact ⟨a, (ovr_add hi hj hT hk).mpr (.inr ⟨(up.mp hu).symm, .inr b⟩)⟩
        · exact ⟨by omega, (ovr_add hi hj hT hk).mpr (.inr ⟨(up.mp hu).symm, .inl a⟩)⟩
      · rintro ⟨a, b⟩
        rcases (ovr_add hi hj hT hk).mp b with b | ⟨-, b | b⟩
        · exact .inl ⟨a, b⟩
        · exact .inr (.inr b)
        · exact .inr (.inl ⟨a, b⟩)
    · rw [if_neg (fun z => hu z.2), hb]
      constructor
      · rintro ⟨a, b⟩; exact ⟨a, (ovr_add hi hj hT hk).mpr (.inl b)⟩
      · rintro ⟨a, b⟩
        rcases (ovr_add hi hj hT hk).mp b with b | ⟨b, -⟩
        · exact ⟨a, b⟩
        · exact absurd (up.mpr b.symm) hu
  · show bt (if k < n ∧ bt (bl j ||| sb j) k = true then ab k ||| (ab i ||| sb i) else ab k) x = true ↔ _
    have hb := (h k hk x hx).2
    have hbi := (h i hi x hx).2
    by_cases hu : bt (bl j ||| sb j) k = true
    · rw [if_pos ⟨hk, hu⟩, b_or, b_or, b_sb (by omega) hx, Bool.or_eq_true, Bool.or_eq_true, decide_eq_true_eq, hb, hbi]
      constructor
      · rintro (⟨a, b⟩ | ⟨a, b⟩ | a)
        · exact ⟨a, (ovr_add hi hj hT a).mpr (.inl b)⟩
        · exact ⟨a, (ovr_add hi hj hT a).mpr (.inr ⟨.inr b, (dn.mp hu).symm⟩)⟩
        · exact ⟨by omega, (ovr_add hi hj hT (by omega)).mpr (.inr ⟨.inl a, (dn.mp hu).symm⟩)⟩
      · rintro ⟨a, b⟩
        rcases (ovr_add hi hj hT a).mp b with b | ⟨b | b, -⟩
        · exact .inl ⟨a, b⟩
        · exact .inr (.inr b)
        · exact .inr (.inl ⟨a, b⟩)
    · rw [if_neg (fun z => hu z.2), hb]
      constructor
      · rintro ⟨a, b⟩; exact ⟨a, (ovr_add hi hj hT a).mpr (.inl b)⟩
      · rintro ⟨a, b⟩
        rcases (ovr_add hi hj hT a).mp b with b | ⟨-, b⟩
        · exact ⟨a, b⟩
        · exact absurd (dn.mpr b.symm) hu
theorem CLO.ext {T T' bl ab : Nat → Int32} {n : Nat} (h : CLO T n bl ab) (hT : ∀ k, k < n → ∀ j, j < n → bt (T k) j = bt (T' k) j) : CLO T' n bl ab := by
  intro k hk j hj
  refine ⟨(h k hk j hj).1.trans ?_, (h k hk j hj).2.trans ?_⟩
  · exact ⟨fun z => ⟨z.1, (ovr_ext hT hk).mp z.2⟩, fun z => ⟨z.1, (ovr_ext hT hk).mpr z.2⟩⟩
  · exact ⟨fun z => ⟨z.1, (ovr_ext hT z.1).mp z.2⟩, fun z => ⟨z.1, (ovr_ext hT z.1).mpr z.2⟩⟩
/-- the edges of the first so many rows and of a piece of the next -/
def rT (td : Nat → Int32) (n i j : Nat) : Nat → Int32 := fun k => acc (fun x => bt (td k) x = true ∧ (k < i ∨ (k = i ∧ x < j))) n
theorem rT_b {td : Nat → Int32} {n i j k x : Nat} (hn : n ≤ 12) (hx : x < n) : bt (rT td n i j k) x = true ↔ (bt (td k) x = true ∧ (k < i ∨ (k = i ∧ x < j))) := by
  unfold rT
  rw [b_acc _ (by omega) (by omega), decide_eq_true_eq]
  exact ⟨fun z => z.2, fun z => ⟨hx, z⟩⟩
theorem chr_clo {td : Nat → Int32} {n i : Nat} {q : BA} (hn : n ≤ 12) (hi : i < n) (h : CLO (rT td n i 0) n q.1 q.2) : ∀ j, j ≤ n → CLO (rT td n i j) n (chr n td i j q).1 (chr n td i j q).2 := by
  intro j
  induction j with
  | zero => intro _; exact h
  | succ j ih =>
    intro hj
    have ih := ih (by omega)
    unfold chr
    by_cases hb : bt (td i) j = true
    · rw [if_pos hb]
      refine chs_clo hn hi (by omega) ih (fun k hk x hx => ?_)
      rw [rT_b hn hx, rT_b hn hx]
      constructor
      · rintro ⟨a, b | ⟨b, c⟩⟩
        · exact .inl ⟨a, .inl b⟩
        · by_cases e : x = j
          · exact .inr ⟨b, e⟩
          · exact .inl ⟨a, .inr ⟨b, by omega⟩⟩
      · rintro (⟨a, b | ⟨b, c⟩⟩ | ⟨a, b⟩)
        · exact ⟨a, .inl b⟩
        · exact ⟨a, .inr ⟨b, by omega⟩⟩
        · rw [a, b]; exact ⟨hb, .inr ⟨rfl, by omega⟩⟩
    · rw [if_neg hb]
      refine ih.ext (fun k hk x hx => ?_)
      rw [Bool.eq_iff_iff, rT_b hn hx, rT_b hn hx]
      constructor
      · rintro ⟨a, b | ⟨b, c⟩⟩
        · exact ⟨a, .inl b⟩
        · exact ⟨a, .inr ⟨b, by omega⟩⟩
      · rintro ⟨a, b | ⟨b, c⟩⟩
        · exact ⟨a, .inl b⟩
        · refine ⟨a, .inr ⟨b, ?_⟩⟩
          have : x ≠ j := fun e => by rw [b, e] at a; exact hb a
          omega
theorem cha_clo {td : Nat → Int32} {n : Nat} {q : BA} (hn : n ≤ 12) (h : CLO (rT td n 0 0) n q.1 q.2) : ∀ i, i ≤ n → CLO (rT td n i 0) n (cha n td i q).1 (cha n td i q).2 := by
  intro i
  induction i with
  | zero => intro _; exact h
  | succ i ih =>
    intro hi
    have := chr_clo hn (by omega) (ih (by omega)) n (Nat.le_refl n)
    refine this.ext (fun k hk x hx => ?_)
    rw [Bool.eq_iff_iff, rT_b hn hx, rT_b hn hx]
    constructor
    · rintro ⟨a, b | ⟨b, c⟩⟩
      · exact ⟨a, .inl (by omega)⟩
      · exact ⟨a, .inl (by omega)⟩
    · rintro ⟨a, b | ⟨b, c⟩⟩
      · by_cases e : k = i
        · exact ⟨a, .inr ⟨e, hx⟩⟩
        · exact ⟨a, .inl (by omega)⟩
      · omega
theorem cha_all {td b0 a0 : Nat → Int32} {n : Nat} (hn : n ≤ 12) : CLO td n (cha n td n (fun k => if k < n then 0 else b0 k, fun k => if k < n then 0 else a0 k)).1 (cha n td n (fun k => if k < n then 0 else b0 k, fun k => if k < n then 0 else a0 k)).2 := by
  have h0 : CLO (rT td n 0 0) n (fun k => if k < n then 0 else b0 k) (fun k => if k < n then 0 else a0 k) := by
    have hno : ∀ a b, ¬ ovr (rT td n 0 0) n a b := by
      rintro a b ⟨x, y, hy, hb, -⟩
      rw [rT_b hn hy] at hb
      omega
    intro k hk j hj
    simp only [hk, if_true, b_0]
    exact ⟨⟨fun z => (by cases z), fun z => absurd z.2 (hno _ _)⟩, ⟨fun z => (by cases z), fun z => absurd z.2 (hno _ _)⟩⟩
  refine (cha_clo hn h0 n (Nat.le_refl n)).ext (fun k hk x hx => ?_)
  rw [Bool.eq_iff_iff, rT_b hn hx]
  exact ⟨fun z => z.1, fun z => ⟨z, .inl hk⟩⟩
/-- what is kept is what the model lays -/
theorem CLO.of {S bl ab : Nat → Int32} {n : Nat} (hn : n ≤ 12) (hTB : ∀ k, k < n → ∀ i, n ≤ i → i < 32 → bt (S (195 + k)) i = false) (h : CLO (fun k => S (195 + k)) n bl ab) : (∀ k, k < n → bl k = cl S n k) ∧ (∀ k, k < n → ab k = acc (fun o => bt (cl S n o) k = true) n) := by
  constructor
  · intro k hk
    apply b_ext
    intro i hi
    rw [Bool.eq_iff_iff, (h k hk i hi).1]
    by_cases hin : i < n
    · rw [cl_iff hk hin]; exact ⟨fun z => z.2, fun z => ⟨hin, z⟩⟩
    · constructor
      · intro z; exact absurd z.1 hin
      · intro z
        have := wsm_hi (T := fun k => S (195 + k)) (n := n) (i := i) (fun k hk => hTB k hk i (by omega) hi) (Nat.le_refl n) k hk
        rw [show cl S n k = wsm n (fun k => S (195 + k)) n k from rfl] at z
        rw [this] at z; cases z
  · intro k hk
    apply b_ext
    intro i hi
    rw [Bool.eq_iff_iff, (h k hk i hi).2, b_acc _ (by omega) hi, decide_eq_true_eq]
    constructor
    · rintro ⟨a, b⟩; exact ⟨a, (cl_iff a hk).mpr b⟩
    · rintro ⟨a, b⟩; exact ⟨a, (cl_iff a hk).mp b⟩
theorem cl_hi {S : Nat → Int32} {n k i : Nat} (hTB : ∀ k, k < n → ∀ i, n ≤ i → i < 32 → bt (S (195 + k)) i = false) (hk : k < n) (h1 : n ≤ i) (h2 : i < 32) : bt (cl S n k) i = false := wsm_hi (T := fun k => S (195 + k)) (n := n) (i := i) (fun k hk => hTB k hk i h1 h2) (Nat.le_refl n) k hk
theorem cl_clo {S : Nat → Int32} {n : Nat} (hn : n ≤ 12) (hTB : ∀ k, k < n → ∀ i, n ≤ i → i < 32 → bt (S (195 + k)) i = false) : CLO (fun k => S (195 + k)) n (cl S n) (fun k => acc (fun o => bt (cl S n o) k = true) n) := by
  intro k hk j hj
  constructor
  · by_cases hjn : j < n
    · rw [cl_iff hk hjn]; exact ⟨fun z => ⟨hjn, z⟩, fun z => z.2⟩
    · rw [cl_hi hTB hk (by omega) hj]
      exact ⟨fun z => (by cases z), fun z => absurd z.1 hjn⟩
  · rw [b_acc _ (by omega) hj, decide_eq_true_eq]
    constructor
    · rintro ⟨a, b⟩; exact ⟨a, (cl_iff a hk).mp b⟩
    · rintro ⟨a, b⟩; exact ⟨a, (cl_iff a hk).mpr b⟩
