/-! ===== the ring, what to ask, mending ===== -/
section RI
variable {S : Nat → Int32} {n w h : Nat} {L : Nat → Nat} {pu : Nat → Int32} {pA : Nat → Nat → Int32}
theorem stp_iff {T : Nat → Int32} {i : Nat} (hn : n ≤ 12) (hi : i < n) (hT : ∀ k, k < n → T k = S (195 + k)) (hTB : TBn S n) : ∀ x, x ≤ 12 → ∀ k, k < 32 → (bt (stp T n i x).1 k = true ↔ k < n ∧ dsf S n i k = x) ∧ (bt (stp T n i x).2 k = true ↔ k < n ∧ dsf S n i k ≤ x) := by
  obtain ⟨d1, d2, d3, d4, d5⟩ := DST_dsf (S := S) hi
  intro x
  induction x with
  | zero =>
    intro _ k hk
    have e : bt (sb i) k = true ↔ k < n ∧ dsf S n i k = 0 := by
      rw [b_sb (by omega) hk, decide_eq_true_eq]
      exact ⟨fun z => by rw [z]; exact ⟨hi, d4⟩, fun z => d5 k z.1 z.2⟩
    exact ⟨e, e.trans ⟨fun z => ⟨z.1, by omega⟩, fun z => ⟨z.1, by omega⟩⟩⟩
  | succ x ih =>
    intro hx k hk
    have ih := ih (by omega)
    have key : bt (stp T n i (x + 1)).1 k = true ↔ k < n ∧ dsf S n i k = x + 1 := by
      show bt (acc (fun k => bt (stp T n i x).2 k = false ∧ T k &&& (stp T n i x).1 ≠ 0) n) k = true ↔ _
      rw [b_acc _ (by omega) hk, decide_eq_true_eq]
      constructor
      · rintro ⟨h1, h2, h3⟩
        refine ⟨h1, ?_⟩
        obtain ⟨j, hj, h4, h5⟩ := b_meet.mp h3
        have h6 := (ih j hj).1.mp h5
        rw [hT k h1] at h4
        have h7 : ¬ dsf S n i k ≤ x := fun q => by rw [(ih k hk).2.mpr ⟨h1, q⟩] at h2; cases h2
        have hki : k ≠ i := fun e => by rw [e, d4] at h7; omega
        by_cases hji : j = i
        · rw [hji] at h4 h6
          rw [d4] at h6
          have := (d1 k h1 hki).mp h4
          omega
        · have := d2 k j h1 h6.1 hki hji h4
          omega
      · rintro ⟨h1, h2⟩
        have hki : k ≠ i := fun e => by rw [e, d4] at h2; omega
        refine ⟨h1, ?_, ?_⟩
        · cases h : bt (stp T n i x).2 k
          · rfl
          · have := ((ih k hk).2.mp h).2; omega
        · refine b_meet.mpr ?_
          rw [hT k h1]
          by_cases hx0 : x = 0
          · exact ⟨i, by omega, (d1 k h1 hki).mpr (by omega), (ih i (by omega)).1.mpr ⟨hi, by omega⟩⟩
          · obtain ⟨j, hj, hb, e⟩ := d3 k x h1 hki (by omega) (by omega) h2
            exact ⟨j, by omega, hb, (ih j (by omega)).1.mpr ⟨hj, e⟩⟩
    refine ⟨key, ?_⟩
    show bt ((stp T n i x).2 ||| (stp T n i (x + 1)).1) k = true ↔ _
    rw [b_or, Bool.or_eq_true, key, (ih k hk).2]
    constructor
    · rintro (z | z)
      · exact ⟨z.1, by omega⟩
      · exact ⟨z.1, by omega⟩
    · rintro ⟨a, b⟩
      by_cases e : dsf S n i k ≤ x
      · exact .inl ⟨a, e⟩
      · exact .inr ⟨a, by omega⟩
theorem fst_mask {x : Int32} {P : Nat → Prop} [DecidablePred P] {N : Nat} (hN : n ≤ N) (hN2 : N ≤ 32) (h : ∀ k, k < 32 → (bt x k = true ↔ k < n ∧ P k)) (hx : fstN P n < n) : fstN (fun k => bt x k = true) N = fstN P n :=
  fstN_some (by omega) ((h _ (by omega)).mpr ⟨hx, fstN_lt hx⟩) (fun i hi hh => fstN_min hi ((h i (by omega)).mp hh).2)
/-- the class's ring is the model's -/
theorem e_ring {T : Nat → Int32} {i j far m D : Nat} {c : Nat → Nat} {r G : Nat → Int32} (hn : n ≤ 12) (hi : i < n) (hj : j < n) (hji : j ≠ i) (hT : ∀ k, k < n → T k = S (195 + k)) (hTB : TBn S n) (eD : D = dsf S n i j) (hD1 : 1 ≤ D) (hD11 : D ≤ 11)
    (f1 : far ≤ 11) (f2 : ∀ x, x < far → bt (stp T n i x).2 j = false) (f3 : far = 11 ∨ bt (stp T n i far).2 j = true) (r0 : r 0 = nI i) (rc : ∀ x, x ≤ m → c x < 12 ∧ r (x + 1) = nI (c x)) (c0 : c 0 = j) (hm : m ≤ far - 1)
    (hs : ∀ x, x < m → T (c x) &&& (stp T n i (far - 1 - x)).1 ≠ 0 ∧ c (x + 1) = fstN (fun k => bt (T (c x) &&& (stp T n i (far - 1 - x)).1) k = true) 12) (he : m < far - 1 → T (c m) &&& (stp T n i (far - 1 - m)).1 = 0)
    (hG : RGM S n (dsf S n i) i j D G) : m + 2 = D + 1 ∧ ∀ x, x < D + 1 → r x = G x := by
  have st := stp_iff (S := S) (T := T) hn hi hT hTB
  obtain ⟨d1, d2, d3, d4, d5⟩ := DST_dsf (S := S) hi
  have hfar : far = D := by
    have h1 : ¬ D < far := fun hl => by
      have h3 := f2 D hl
      rw [(st D (by omega) j (by omega)).2.mpr ⟨hj, by omega⟩] at h3; cases h3
    rcases f3 with e | e
    · have h2 : ¬ dsf S n i j ≤ 10 := fun q => by
        have h3 := f2 10 (by omega)
        rw [(st 10 (by omega) j (by omega)).2.mpr ⟨hj, q⟩] at h3; cases h3
      omega
    · have := ((st far (by omega) j (by omega)).2.mp e).2
      omega
  subst hfar
  -- the mask at x, if c x is far - x steps away
  have mk : ∀ x, x < far - 1 → c x < n → dsf S n i (c x) = far - x → (∀ k, k < 32 → (bt (T (c x) &&& (stp T n i (far - 1 - x)).1) k = true ↔ k < n ∧ (bt (S (195 + c x)) k = true ∧ dsf S n i k = far - 1 - x))) ∧ nxR S n (dsf S n i) (c x) (far - 1 - x) < n := by
    intro x hx hc hd
    have hci : c x ≠ i := fun e => by rw [e, d4] at hd; omega
    constructor
    · intro k hk
      rw [b_and, Bool.and_eq_true, hT _ hc, (st _ (by omega) k hk).1]
      exact ⟨fun z => ⟨z.2.1, z.1, z.2.2⟩, fun z => ⟨z.2.1, z.1, z.2.2⟩⟩
    · obtain ⟨k, hk, hb, e⟩ := d3 (c x) (far - 1 - x) hc hci (by omega) (by omega) (by omega)
      refine Nat.lt_of_not_le fun hge => ?_
      unfold nxR at hge
      exact fstN_min (P := fun k => bt (S (195 + c x)) k = true ∧ dsf S n i k = far - 1 - x) (show k < fstN (fun k => bt (S (195 + c x)) k = true ∧ dsf S n i k = far - 1 - x) n by omega) ⟨hb, e⟩
  have inv : ∀ x, x ≤ m → c x < n ∧ dsf S n i (c x) = far - x ∧ (∀ y, y < x → c (y + 1) = nxR S n (dsf S n i) (c y) (far - 1 - y)) := by
    intro x
    induction x with
    | zero => intro _; exact ⟨by rw [c0]; exact hj, by rw [c0]; omega, fun y hy => absurd hy (Nat.not_lt_zero y)⟩
    | succ x ih =>
      intro hx
      obtain ⟨i1, i2, i3⟩ := ih (by omega)
      obtain ⟨mk1, mk2⟩ := mk x (by omega) i1 i2
      have hc := (hs x (by omega)).2
      have e12 : ∀ N, N = 12 → fstN (fun k => bt (T (c x) &&& (stp T n i (far - 1 - x)).1) k = true) N = nxR S n (dsf S n i) (c x) (far - 1 - x) := fun N hN => fst_mask (by omega) (by omega) mk1 mk2
      rw [e12 12 rfl] at hc
      have hp : bt (S (195 + c x)) (nxR S n (dsf S n i) (c x) (far - 1 - x)) = true ∧ dsf S n i (nxR S n (dsf S n i) (c x) (far - 1 - x)) = far - 1 - x := fstN_lt (P := fun k => bt (S (195 + c x)) k = true ∧ dsf S n i k = far - 1 - x) mk2
      rw [← hc] at hp mk2
      refine ⟨mk2, by rw [hp.2]; omega, fun y hy => ?_⟩
      by_cases e : y = x
      · rw [e]; exact hc
      · exact i3 y (by omega)
  have hmf : m = far - 1 := by
    refine Classical.byContradiction fun hne => ?_
    obtain ⟨i1, i2, i3⟩ := inv m (Nat.le_refl m)
    obtain ⟨mk1, mk2⟩ := mk m (by omega) i1 i2
    have h0 := he (by omega)
    have hp : bt (S (195 + c m)) (nxR S n (dsf S n i) (c m) (far - 1 - m)) = true ∧ dsf S n i (nxR S n (dsf S n i) (c m) (far - 1 - m)) = far - 1 - m := fstN_lt (P := fun k => bt (S (195 + c m)) k = true ∧ dsf S n i k = far - 1 - m) mk2
    have h1 := (mk1 _ (by omega)).mpr ⟨mk2, hp⟩
    rw [h0, b_0] at h1; cases h1
  refine ⟨by omega, fun x hx => ?_⟩
  obtain ⟨g0, g1, g2⟩ := hG
  cases x with
  | zero => rw [r0, g0]
  | succ x =>
    have hGc : ∀ x, x ≤ m → G (x + 1) = nI (c x) := by
      intro x
      induction x with
      | zero => intro _; rw [c0]; exact g1
      | succ x ih =>
        intro hx
        have ih := ih (by omega)
        obtain ⟨p, hp, e1, e2, e3⟩ := g2 (x + 2) (by omega) (by omega)
        rw [show x + 2 - 1 = x + 1 by omega, ih, nI_eq (by have := (rc x (by omega)).1; omega) (by omega)] at e1
        rw [show x + 1 + 1 = x + 2 by omega, e3, ← e1, show far + 1 - (x + 2) = far - 1 - x by omega, (inv (x + 1) hx).2.2 x (by omega)]
    rw [(rc x (by omega)).2, hGc x (by omega)]
end RI
section AS
variable {S : Nat → Int32} {n w h : Nat} {L : Nat → Nat} {pu : Nat → Int32} {pA : Nat → Nat → Int32} {E : Nat → Int32} {R : Nat → Int64}
def akN (S : Nat → Int32) (n a b : Nat) : Nat := if ordW S n b a < ordW S n a b then ordW S n a b else ordW S n b a
theorem ak_eq (hG : GS S n) (hb : ∀ k, k < n → pA 12 k = cl S n k) (h2 : tb2 (pA 12) n E R) {a b : Nat} (ha : a < n) (hb2 : b < n) (hab : a ≠ b) : askd E a b = nI (akN S n a b) ∧ akV S n a b = lN (akN S n a b) ∧ akN S n a b ≤ 479001600 := by
  obtain ⟨e1, l1⟩ := e_ahead hG hb h2 ha hb2 hab
  obtain ⟨e2, l2⟩ := e_ahead hG hb h2 hb2 ha (Ne.symm hab)
  unfold askd akV akN
  rw [e1, e2]
  by_cases c : ordW S n b a < ordW S n a b
  · rw [if_pos c, if_pos (nI_lt c (by omega)), if_pos ((lN_lt (by omega) (by omega)).mpr c)]
    exact ⟨rfl, rfl, l2⟩
  · rw [if_neg c, if_neg (fun z => c ((nI_ltI (by omega) (by omega)).mp z)), if_neg (fun z => c ((lN_lt (by omega) (by omega)).mp z))]
    exact ⟨rfl, rfl, l1⟩
/-- both seek alike -/
def akR (S : Nat → Int32) (n : Nat) (p : Int32 × Int32) (q : AK) : Prop := (p.1 = -1 ∧ q.1 = -1) ∨ ∃ a b, a < b ∧ b < n ∧ p = (nI (a * 12 + b), nI (akN S n a b)) ∧ q = (lN (akN S n a b), nI a, nI b)
theorem ak_step (H : CPl S n L pu pA) (h2 : tb2 (pA 12) n E R) {a : Nat} (ha : a < n) {p : Int32 × Int32} {q : AK} (hr : akR S n p q) : ∀ j, j ≤ n - 1 - a → akR S n (bst1 (pA 10) (pA 12) E a j p) (amin1 (akC S L n) (akV S n) a j q) := by
  have hn := H.2.1.n12
  intro j
  induction j with
  | zero => intro _; exact hr
  | succ j ih =>
    intro hj
    have ih := ih (by omega)
    have hb : a + 1 + j < n := by omega
    obtain ⟨k1, k2, k3⟩ := ak_eq H.2.1 H.bl h2 ha hb (show a ≠ a + 1 + j by omega)
    unfold bst1 amin1
    generalize bst1 (pA 10) (pA 12) E a j p = p' at *
    generalize amin1 (akC S L n) (akV S n) a j q = q' at *
    generalize ebb : a + 1 + j = b at *
    have hc : (bt (pA 10 a) b = true ∧ bt (pA 12 a) b = false ∧ bt (pA 12 b) a = false) ↔ akC S L n a b := by
      rw [H.2.2.2.1 a ha, H.bl a ha, H.bl b hb, b_acc _ (by omega) (by omega), decide_eq_true_eq]
      constructor
      · rintro ⟨⟨-, h1⟩, h3, h4⟩; exact ⟨h1, by rw [h3]; decide, by rw [h4]; decide⟩
      · rintro ⟨h1, h3, h4⟩; exact ⟨⟨hb, h1⟩, by simpa using h3, by simpa using h4⟩
    have hd : (p'.1 = -1 ∨ askd E a b < p'.2) ↔ (q'.1 = -1 ∨ akV S n a b < q'.1) := by
      rcases ih with ⟨e1, e2⟩ | ⟨x, y, hx, hy, e1, e2⟩
      · exact ⟨fun _ => .inl e2, fun _ => .inl e1⟩
      · obtain ⟨-, -, l3⟩ := ak_eq H.2.1 H.bl h2 (show x < n by omega) hy (show x ≠ y by omega)
        rw [e1, e2, k1, k2]
        constructor
        · rintro (z | z)
          · exact absurd z (nI_nm1 (by omega))
          · exact .inr ((lN_lt (by omega) (by omega)).mpr ((nI_ltI (by omega) (by omega)).mp z))
        · rintro (z | z)
          · have := congrArg Int64.toInt z
            rw [lN_toInt (by omega)] at this
            have h9 : (-1 : Int64).toInt = -1 := by decide
            omega
          · exact .inr ((nI_ltI (by omega) (by omega)).mpr ((lN_lt (by omega) (by omega)).mp z))
    by_cases c : akC S L n a b ∧ (q'.1 = -1 ∨ akV S n a b < q'.1)
    · rw [if_pos ⟨hc.mpr c.1, hd.mpr c.2⟩, if_pos c, k1, k2]
      exact .inr ⟨a, b, by omega, hb, rfl, rfl⟩
    · rw [if_neg (fun z => c ⟨hc.mp z.1, hd.mp z.2⟩), if_neg c]
      exact ih
theorem e_ask (H : CPl S n L pu pA) (h2 : tb2 (pA 12) n E R) (x y : Int32) : ∀ m, m ≤ n → akR S n (bst (pA 10) (pA 12) E n m) (amin (akC S L n) (akV S n) n (-1, x, y) m) := by
  intro m
  induction m with
  | zero => intro _; exact .inl ⟨rfl, rfl⟩
  | succ m ih => intro hm; exact ak_step H h2 (by omega) (ih (by omega)) _ (Nat.le_refl _)
/-- mending -/
theorem e_mend {u0 : Nat → Int32} {A0 : Nat → Nat → Int32} {N : Nat → Int32} (H : CPl S n L u0 A0) : ∀ k, CPl (mnS S L n N k).1 n L (mnd n N k (u0, A0, 0)).1 (mnd n N k (u0, A0, 0)).2.1 ∧ eq55 S (mnS S L n N k).1 ∧ (mnd n N k (u0, A0, 0)).2.2 = (mnS S L n N k).2 := by
  have hn := H.2.1.n12
  intro k
  induction k with
  | zero => exact ⟨H, fun _ _ => rfl, rfl⟩
  | succ k ih =>
    obtain ⟨i1, i2, i3⟩ := ih
    unfold mnd mnS
    generalize mnd n N k (u0, A0, 0) = P at *
    generalize mnS S L n N k = Z at *
    by_cases hs : (0 ≤ N (2 * k) ∧ N (2 * k) < nI n) ∧ (0 ≤ N (2 * k + 1) ∧ N (2 * k + 1) < nI n)
    · obtain ⟨i, hi, ei⟩ := ix (by omega) hs.1
      obtain ⟨j, hj, ej⟩ := ix (by omega) hs.2
      have hs' := hs
      rw [ei, ej] at hs' ⊢
      rw [ref_eq i1 hi hj, nI_clamp (by omega), nI_clamp (by omega)]
      have hok : ((if ¬ ((i ≠ j ∧ cmn Z.1 L i j ≠ -1) ∧ ¬ bt (Z.1 (195 + i)) j = true) then (-5 : Int32) else if bt (cl Z.1 n j) i = true then -105 else if wyM (tldM Z.1 i j) n = 0 then -9 else 0) = 0) ↔ okM Z.1 L n i j := by
        by_cases c1 : (i ≠ j ∧ cmn Z.1 L i j ≠ -1) ∧ ¬ bt (Z.1 (195 + i)) j = true
        · rw [if_neg (fun z => z c1)]
          by_cases c2 : bt (cl Z.1 n j) i = true
          · rw [if_pos c2]; exact ⟨fun z => absurd z (by decide), fun z => absurd c2 z.2.1⟩
          · rw [if_neg c2]
            by_cases c3 : wyM (tldM Z.1 i j) n = 0
            · rw [if_pos c3]; exact ⟨fun z => absurd z (by decide), fun z => absurd c3 z.2.2⟩
            · rw [if_neg c3]; exact ⟨fun _ => ⟨c1, c2, c3⟩, fun _ => rfl⟩
        · rw [if_pos c1]; exact ⟨fun z => absurd z (by decide), fun z => absurd z.1 c1⟩
      by_cases c : okM Z.1 L n i j
      · rw [if_pos (hok.mpr c), if_pos ⟨hs', c⟩]
        exact ⟨i1.tld hi hj c.1.1.1 c.2.1 c.2.2, fun x hx => (tld55 x hx).trans (i2 x hx), i3⟩
      · rw [if_neg (fun z => c (hok.mp z)), if_neg (fun z => c z.2)]
        exact ⟨i1, i2, by show P.2.2 ||| sb k = Z.2 ||| sb k; rw [i3]⟩
    · rw [ref_no _ _ hs, if_neg (show ¬ ((-2 : Int32) = 0) by decide), if_neg (fun z => hs z.1)]
      exact ⟨i1, i2, by show P.2.2 ||| sb k = Z.2 ||| sb k; rw [i3]⟩
end AS
/-- the likeliest -/
theorem e_lik (c : Nat → Prop) [DecidablePred c] (P : Nat → Int64) (hP : ∀ k, c k → 0 < P k) : ∀ k, k < 2 ^ 31 → (likv c P k).1 = likm c P k ∧ ((likv c P k).1 = -1 → (likv c P k).2 = 0) ∧ ((likv c P k).1 ≠ -1 → (likv c P k).2 = P (likv c P k).1.toNatClampNeg) := by
  intro k
  induction k with
  | zero => intro _; exact ⟨rfl, fun _ => rfl, fun h => absurd rfl h⟩
  | succ k ih =>
    intro hk
    obtain ⟨i1, i2, i3⟩ := ih (by omega)
    unfold likv likm
    rw [← i1]
    by_cases hc : c k
    · by_cases hb : (likv c P k).1 = -1
      · rw [if_pos ⟨hc, by rw [i2 hb]; exact hP k hc⟩, if_pos ⟨hc, .inl hb⟩]
        exact ⟨rfl, fun z => absurd z (nI_nm1 (by omega)), fun _ => by show P k = P (nI k).toNatClampNeg; rw [nI_clamp (by omega)]⟩
      · have e := i3 hb
        by_cases hl : (likv c P k).2 < P k
        · rw [if_pos ⟨hc, hl⟩, if_pos ⟨hc, .inr (by rw [← e]; exact hl)⟩]
          exact ⟨rfl, fun z => absurd z (nI_nm1 (by omega)), fun _ => by show P k = P (nI k).toNatClampNeg; rw [nI_clamp (by omega)]⟩
        · rw [if_neg (fun z => hl z.2), if_neg (fun z => z.2.elim hb (fun q => hl (by rw [e]; exact q)))]
          exact ⟨rfl, i2, i3⟩
    · rw [if_neg (fun z => hc z.1), if_neg (fun z => hc z.1)]
      exact ⟨rfl, i2, i3⟩
