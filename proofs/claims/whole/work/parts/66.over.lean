/-! ===== what is over what: paths, Warshall, how far ===== -/
def pth (T : Nat → Int32) (n : Nat) : Nat → Nat → Nat → Prop
  | 0, k, j => k = j
  | i + 1, k, j => ∃ x, x < n ∧ bt (T k) x = true ∧ pth T n i x j
def ovr (T : Nat → Int32) (n k j : Nat) : Prop := ∃ i, pth T n (i + 1) k j
section PT
variable {T T' : Nat → Int32} {n : Nat}
theorem pth_add {i i' k x j : Nat} (h : pth T n i k x) (g : pth T n i' x j) : pth T n (i + i') k j := by
  induction i generalizing k with
  | zero => rw [Nat.zero_add]; rw [show k = x from h]; exact g
  | succ i ih =>
    obtain ⟨y, hy, hb, hp⟩ := h
    rw [show i + 1 + i' = (i + i') + 1 by omega]
    exact ⟨y, hy, hb, ih hp⟩
theorem ovr.trans {k x j : Nat} (h : ovr T n k x) (g : ovr T n x j) : ovr T n k j := by
  obtain ⟨i, h⟩ := h
  obtain ⟨i', g⟩ := g
  have := pth_add h g
  exact ⟨i + 1 + i', this⟩
theorem ovr.edge {k j : Nat} (hj : j < n) (h : bt (T k) j = true) : ovr T n k j := ⟨0, j, hj, h, rfl⟩
theorem pth_lt {i k j : Nat} (hk : k < n) (h : pth T n i k j) : j < n := by
  induction i generalizing k with
  | zero => rw [← show k = j from h]; exact hk
  | succ i ih => obtain ⟨y, hy, hb, hp⟩ := h; exact ih hy hp
theorem ovr.lt {k j : Nat} (h : ovr T n k j) : j < n := by
  obtain ⟨i, y, hy, -, hp⟩ := h
  exact pth_lt hy hp
theorem pth_ext {i k j : Nat} (h : ∀ k, k < n → ∀ j, j < n → bt (T k) j = bt (T' k) j) (hk : k < n) (hp : pth T n i k j) : pth T' n i k j := by
  induction i generalizing k with
  | zero => exact hp
  | succ i ih => obtain ⟨y, hy, hb, hp⟩ := hp; exact ⟨y, hy, by rw [← h k hk y hy]; exact hb, ih hy hp⟩
theorem ovr_ext {k j : Nat} (h : ∀ k, k < n → ∀ j, j < n → bt (T k) j = bt (T' k) j) (hk : k < n) : ovr T n k j ↔ ovr T' n k j :=
  ⟨fun ⟨i, hp⟩ => ⟨i, pth_ext h hk hp⟩, fun ⟨i, hp⟩ => ⟨i, pth_ext (fun k hk j hj => (h k hk j hj).symm) hk hp⟩⟩
/-- the first or the last step of a chain -/
theorem ovr.first {k j : Nat} (h : ovr T n k j) : ∃ x, x < n ∧ bt (T k) x = true ∧ (x = j ∨ ovr T n x j) := by
  obtain ⟨i, y, hy, hb, hp⟩ := h
  refine ⟨y, hy, hb, ?_⟩
  cases i with
  | zero => exact .inl hp
  | succ i => exact .inr ⟨i, hp⟩
theorem wsk_eq {mm : Nat} {o : Nat → Int32} (hmm : mm < n) : ∀ j, j ≤ n → ∀ k, k < n → wsk mm o j k = if k < j ∧ bt (o k) mm = true then o k ||| o mm else o k := by
  intro j
  induction j with
  | zero => intro _ k hk; rw [if_neg (by omega)]; rfl
  | succ j ih =>
    intro hj k hk
    have ih := ih (by omega)
    have hjj : wsk mm o j j = o j := by rw [ih j (by omega), if_neg (by omega)]
    have hm : wsk mm o j mm = o mm := by
      rw [ih mm hmm]
      split
      · exact b_ext (fun i _ => by rw [b_or, Bool.or_self])
      · rfl
    unfold wsk
    rw [hjj, hm]
    by_cases hb : bt (o j) mm = true
    · rw [if_pos hb]
      by_cases e : k = j
      · rw [e, pk_us, if_pos ⟨by omega, hb⟩]
      · rw [pk_un e, ih k hk]
        by_cases h2 : k < j ∧ bt (o k) mm = true
        · rw [if_pos h2, if_pos ⟨by omega, h2.2⟩]
        · rw [if_neg h2, if_neg (fun z => h2 ⟨by omega, z.2⟩)]
    · rw [if_neg hb, ih k hk]
      by_cases h2 : k < j ∧ bt (o k) mm = true
      · rw [if_pos h2, if_pos ⟨by omega, h2.2⟩]
      · rw [if_neg h2, if_neg (fun z => by
          by_cases e : k = j
          · rw [e] at z; exact hb z.2
          · exact h2 ⟨by omega, z.2⟩)]
theorem wsm_s {m k j : Nat} (hm : m < n) (hk : k < n) : bt (wsm n T (m + 1) k) j = true ↔ bt (wsm n T m k) j = true ∨ (bt (wsm n T m k) m = true ∧ bt (wsm n T m m) j = true) := by
  show bt (wsk m (wsm n T m) n k) j = true ↔ _
  rw [wsk_eq hm n (Nat.le_refl n) k hk]
  by_cases h : bt (wsm n T m k) m = true
  · rw [if_pos ⟨hk, h⟩, b_or, Bool.or_eq_true]
    exact ⟨fun z => z.elim .inl (fun q => .inr ⟨h, q⟩), fun z => z.elim .inl (fun q => .inr q.2)⟩
  · rw [if_neg (fun z => h z.2)]
    exact ⟨.inl, fun z => z.elim id (fun q => absurd q.1 h)⟩
theorem wsm_sound {m : Nat} (hm : m ≤ n) : ∀ k j, k < n → j < n → bt (wsm n T m k) j = true → ovr T n k j := by
  induction m with
  | zero => intro k j hk hj h; exact ovr.edge hj h
  | succ m ih =>
    intro k j hk hj h
    have ih := ih (by omega)
    rcases (wsm_s (by omega) hk).mp h with h | ⟨h1, h2⟩
    · exact ih k j hk hj h
    · exact (ih k m hk (by omega) h1).trans (ih m j (by omega) hj h2)
theorem wsm_mono {m k j : Nat} (hm : m ≤ n) (hk : k < n) (h : bt (T k) j = true) : bt (wsm n T m k) j = true := by
  induction m with
  | zero => exact h
  | succ m ih => exact (wsm_s (by omega) hk).mpr (.inl (ih (by omega)))
theorem wsm_tr {m : Nat} (hm : m ≤ n) : ∀ x, x < m → ∀ k j, k < n → bt (wsm n T m k) x = true → bt (wsm n T m x) j = true → bt (wsm n T m k) j = true := by
  induction m with
  | zero => intro x hx; omega
  | succ m ih =>
    intro x hx k j hk h1 h2
    have ih := ih (by omega)
    rw [wsm_s (by omega) hk] at h1 ⊢
    rw [wsm_s (by omega) (by omega)] at h2
    rcases Nat.lt_or_ge x m with hxm | hxm
    · rcases h1 with h1 | ⟨h1, h1'⟩
      · rcases h2 with h2 | ⟨h2, h2'⟩
        · exact .inl (ih x hxm k j hk h1 h2)
        · exact .inr ⟨ih x hxm k m hk h1 h2, h2'⟩
      · rcases h2 with h2 | ⟨h2, h2'⟩
        · exact .inr ⟨h1, ih x hxm m j (by omega) h1' h2⟩
        · exact .inr ⟨h1, h2'⟩
    · have e : x = m := by omega
      rw [e] at h1 h2
      refine .inr ⟨?_, ?_⟩
      · rcases h1 with h1 | h1
        · exact h1
        · exact h1.1
      · rcases h2 with h2 | h2
        · exact h2
        · exact h2.2
theorem wsm_compl {i k j : Nat} (hk : k < n) (h : pth T n (i + 1) k j) : bt (wsm n T n k) j = true := by
  induction i generalizing k with
  | zero =>
    obtain ⟨y, hy, hb, hp⟩ := h
    rw [show y = j from hp] at hb
    exact wsm_mono (Nat.le_refl n) hk hb
  | succ i ih =>
    obtain ⟨y, hy, hb, hp⟩ := h
    exact wsm_tr (Nat.le_refl n) y hy k j hk (wsm_mono (Nat.le_refl n) hk hb) (ih hy hp)
/-- Warshall is right -/
theorem wsm_iff {k j : Nat} (hk : k < n) (hj : j < n) : bt (wsm n T n k) j = true ↔ ovr T n k j :=
  ⟨wsm_sound (Nat.le_refl n) k j hk hj, fun ⟨_, h⟩ => wsm_compl hk h⟩
/-- no bits beyond -/
theorem wsm_hi {i : Nat} (h : ∀ k, k < n → bt (T k) i = false) {m : Nat} (hm : m ≤ n) : ∀ k, k < n → bt (wsm n T m k) i = false := by
  induction m with
  | zero => exact h
  | succ m ih =>
    intro k hk
    have ih := ih (by omega)
    cases hb : bt (wsm n T (m + 1) k) i
    · rfl
    · rcases (wsm_s (by omega) hk).mp hb with h1 | h1
      · rw [ih k hk] at h1; cases h1
      · rw [ih m (by omega)] at h1; cases h1.2
end PT
/-- within so many steps -/
theorem pgh : ∀ n D, ∀ f : Nat → Nat, (∀ i, i ≤ D → f i < n) → (∀ i j, i ≤ D → j ≤ D → f i = f j → i = j) → D + 1 ≤ n := by
  intro n
  induction n with
  | zero => intro D f h; exact absurd (h 0 (Nat.zero_le _)) (Nat.not_lt_zero _)
  | succ n ih =>
    intro D f h hinj
    cases D with
    | zero => omega
    | succ D =>
      -- put f (D+1) out of the way: values above it step down
      have hne : ∀ i, i ≤ D → f i ≠ f (D + 1) := fun i hi e => by have := hinj i (D + 1) (by omega) (by omega) e; omega
      have := ih D (fun i => if f i < f (D + 1) then f i else f i - 1) (fun i hi => by
        have h1 := h i (by omega); have h2 := h (D + 1) (by omega); have h3 := hne i hi
        show (if f i < f (D + 1) then f i else f i - 1) < n
        split <;> omega) (fun i j hi hj e => by
        have e : (if f i < f (D + 1) then f i else f i - 1) = (if f j < f (D + 1) then f j else f j - 1) := e
        have h3 := hne i hi; have h4 := hne j hj
        refine hinj i j (by omega) (by omega) ?_
        split at e <;> split at e <;> omega)
      omega
section DS
variable {S : Nat → Int32} {n to : Nat}
/-- to is at most so many steps below -/
def wti (S : Nat → Int32) (n to i k : Nat) : Prop := ∃ x, x ≤ i ∧ pth (fun k => S (195 + k)) n x k to
theorem wti_0 {k : Nat} : wti S n to 0 k ↔ k = to := by
  constructor
  · rintro ⟨x, hx, hp⟩
    rw [show x = 0 by omega] at hp
    exact hp
  · intro h; exact ⟨0, Nat.le_refl _, h⟩
theorem wti_s {i k : Nat} : wti S n to (i + 1) k ↔ wti S n to i k ∨ ∃ j, j < n ∧ bt (S (195 + k)) j = true ∧ wti S n to i j := by
  constructor
  · rintro ⟨x, hx, hp⟩
    by_cases e : x = i + 1
    · rw [e] at hp
      obtain ⟨y, hy, hb, hp⟩ := hp
      exact .inr ⟨y, hy, hb, i, Nat.le_refl _, hp⟩
    · exact .inl ⟨x, by omega, hp⟩
  · rintro (⟨x, hx, hp⟩ | ⟨j, hj, hb, x, hx, hp⟩)
    · exact ⟨x, by omega, hp⟩
    · exact ⟨x + 1, by omega, j, hj, hb, hp⟩
noncomputable def dsg (P : Nat → Prop) (N : Nat) : Nat := @fstN P (fun _ => Classical.propDecidable _) N
theorem dsg_le {P : Nat → Prop} {N i : Nat} (h : P i) : dsg P N ≤ i := by
  refine Nat.le_of_not_lt fun hl => ?_
  exact @fstN_min P (fun _ => Classical.propDecidable _) N i hl h
theorem dsg_at {P : Nat → Prop} {N : Nat} (h : dsg P N < N) : P (dsg P N) := @fstN_lt P (fun _ => Classical.propDecidable _) N h
theorem dsg_N {P : Nat → Prop} {N : Nat} : dsg P N ≤ N := @fstN_le P (fun _ => Classical.propDecidable _) N
noncomputable def dsf (S : Nat → Int32) (n to k : Nat) : Nat := dsg (fun i => wti S n to i k) 13
theorem wti_up {i i' k : Nat} (h : wti S n to i k) (hi : i ≤ i') : wti S n to i' k := by
  obtain ⟨x, hx, hp⟩ := h
  exact ⟨x, by omega, hp⟩
theorem dsf_le {i k : Nat} (h : wti S n to i k) : dsf S n to k ≤ i := dsg_le (P := fun i => wti S n to i k) h
theorem dsf_at {k : Nat} (h : dsf S n to k < 13) : wti S n to (dsf S n to k) k := dsg_at (P := fun i => wti S n to i k) h
theorem dsf_13 {k : Nat} : dsf S n to k ≤ 13 := dsg_N
theorem wti_pth {i k : Nat} (h : pth (fun k => S (195 + k)) n i k to) : wti S n to i k := ⟨i, Nat.le_refl _, h⟩
theorem DST_dsf (hto : to < n) : DST S n to (dsf S n to) := by
  have h0 : ∀ k, dsf S n to k = 0 → k = to := fun k h => by
    have := dsf_at (S := S) (n := n) (to := to) (k := k) (by omega)
    rw [h] at this; exact wti_0.mp this
  have hz : dsf S n to to = 0 := Nat.le_zero.mp (dsf_le (wti_0.mpr rfl))
  refine ⟨fun k hk hkt => ⟨fun h => ?_, fun h => ?_⟩, fun k j hk hj _ _ hb => ?_, fun k r hk hkt h1 h2 e => ?_, hz, fun k _ h => h0 k h⟩
  · have h1 : dsf S n to k ≤ 1 := dsf_le (wti_s.mpr (.inr ⟨to, hto, h, wti_0.mpr rfl⟩))
    have h2 : dsf S n to k ≠ 0 := fun e => hkt (h0 k e)
    omega
  · have h1 := dsf_at (S := S) (n := n) (to := to) (k := k) (by omega)
    rw [h] at h1
    rcases wti_s.mp h1 with h1 | ⟨j, hj, hb, e⟩
    · exact absurd (wti_0.mp h1) hkt
    · rw [← wti_0.mp e]; exact hb
  · by_cases hl : dsf S n to j < 13
    · exact dsf_le (wti_s.mpr (.inr ⟨j, hj, hb, dsf_at hl⟩))
    · have := dsf_13 (S := S) (n := n) (to := to) (k := k); omega
  · have h3 := dsf_at (S := S) (n := n) (to := to) (k := k) (by omega)
    rw [e] at h3
    rcases wti_s.mp h3 with h3 | ⟨j, hj, hb, h3⟩
    · have := dsf_le h3; omega
    · refine ⟨j, hj, hb, ?_⟩
      have h4 := dsf_le h3
      refine Classical.byContradiction fun hne => ?_
      have h5 := dsf_at (S := S) (n := n) (to := to) (k := j) (by omega)
      have h6 : wti S n to r k := by
        have : wti S n to (r - 1) j := wti_up h5 (by omega)
        have h7 : wti S n to (r - 1 + 1) k := wti_s.mpr (.inr ⟨j, hj, hb, this⟩)
        rw [show r - 1 + 1 = r by omega] at h7
        exact h7
      have := dsf_le h6
      omega
/-- whatever is over it is so in eleven steps at most -/
theorem dsf_11 {b : Nat} (hn : n ≤ 12) (hto : to < n) (hb : b < n) (hne : b ≠ to) (h : ovr (fun k => S (195 + k)) n b to) : 1 ≤ dsf S n to b ∧ dsf S n to b ≤ 11 := by
  obtain ⟨i, hp⟩ := h
  have hw : ∃ i, wti S n to i b := ⟨_, wti_pth hp⟩
  -- the least such i: a node for each step below it
  have key : ∀ i, ∀ b, b < n → wti S n to i b → (∀ i', i' < i → ¬ wti S n to i' b) → ∃ f : Nat → Nat, ∀ x, x ≤ i → f x < n ∧ wti S n to x (f x) ∧ ∀ y, y < x → ¬ wti S n to y (f x) := by
    intro i
    induction i with
    | zero => intro b hb h1 h2; exact ⟨fun _ => b, fun x hx => ⟨hb, by rw [show x = 0 by omega]; exact h1, fun y hy => absurd hy (by omega)⟩⟩
    | succ i ih =>
      intro b hb h1 h2
      rcases wti_s.mp h1 with h1 | ⟨j, hj, hbj, h1⟩
      · exact absurd h1 (h2 i (by omega))
      · obtain ⟨f, hf⟩ := ih j hj h1 (fun i' hi' hw' => h2 (i' + 1) (by omega) (wti_s.mpr (.inr ⟨j, hj, hbj, hw'⟩)))
        refine ⟨fun x => if x = i + 1 then b else f x, fun x hx => ?_⟩
        by_cases e : x = i + 1
        · subst e
          simp only [if_true]
          exact ⟨hb, wti_s.mpr (.inr ⟨j, hj, hbj, h1⟩), h2⟩
        · simp only [e, if_false]
          exact hf x (by omega)
  have least : ∃ i, wti S n to i b ∧ ∀ i', i' < i → ¬ wti S n to i' b := by
    obtain ⟨i, hi⟩ := hw
    induction i using Nat.strongRecOn with
    | ind i ih =>
      by_cases hx : ∃ i', i' < i ∧ wti S n to i' b
      · obtain ⟨i', h1, h2⟩ := hx; exact ih i' h1 h2
      · exact ⟨i, hi, fun i' h1 h2 => hx ⟨i', h1, h2⟩⟩
  obtain ⟨D, hD, hDm⟩ := least
  obtain ⟨f, hf⟩ := key D b hb hD hDm
  have h12 := pgh n D f (fun x hx => (hf x hx).1) (fun x y hx hy e => by
    rcases Nat.lt_trichotomy x y with h | h | h
    · exact absurd ((hf x hx).2.1) (by rw [e]; exact (hf y hy).2.2 x h)
    · exact h
    · exact absurd ((hf y hy).2.1) (by rw [← e]; exact (hf x hx).2.2 y h))
  have h1 := dsf_le hD
  refine ⟨?_, by omega⟩
  refine Nat.pos_of_ne_zero fun e => hne ?_
  have := dsf_at (S := S) (n := n) (to := to) (k := b) (by omega)
  rw [e] at this
  exact wti_0.mp this
end DS
