/-! ===== the model: what is laid, in words of its array alone; what shows ===== -/
theorem wsk_ext {n mm : Nat} {o o' : Nat → Int32} (hmm : mm < n) (h : ∀ k, k < n → o k = o' k) : ∀ j, j ≤ n → ∀ k, k < n → wsk mm o j k = wsk mm o' j k := by
  intro j
  induction j with
  | zero => intro _ k hk; exact h k hk
  | succ j ih =>
    intro hj k hk
    have ih := ih (by omega)
    unfold wsk
    rw [ih j (by omega)]
    split
    · by_cases e : k = j
      · rw [e, pk_us, pk_us, ih mm hmm]
      · rw [pk_un e, pk_un e]; exact ih k hk
    · exact ih k hk
theorem wsm_ext {n : Nat} {o o' : Nat → Int32} (h : ∀ k, k < n → o k = o' k) : ∀ j, j ≤ n → ∀ k, k < n → wsm n o j k = wsm n o' j k := by
  intro j
  induction j with
  | zero => intro _ k hk; exact h k hk
  | succ j ih =>
    intro hj k hk
    exact wsk_ext (by omega) (ih (by omega)) n (by omega) k hk
theorem wcn_ext {P P' : Nat → Prop} [DecidablePred P] [DecidablePred P'] {k : Nat} (h : ∀ i, i < k → (P i ↔ P' i)) : wcn P k = wcn P' k := by
  induction k with
  | zero => rfl
  | succ k ih =>
    unfold wcn
    rw [ih (fun i hi => h i (by omega))]
    by_cases hp : P k
    · rw [if_pos hp, if_pos ((h k (by omega)).mp hp)]
    · rw [if_neg hp, if_neg (fun q => hp ((h k (by omega)).mpr q))]
/-- what is over what in the model, by chains -/
def cl (S : Nat → Int32) (n : Nat) : Nat → Int32 := wsm n (fun k => S (195 + k)) n
theorem clo_cl {S o : Nat → Int32} {n k : Nat} (hk : k < n) : clo S o n k = cl S n k := wsm_ext (fun k hk => if_pos hk) n (Nat.le_refl n) k hk
theorem wyP_ext {S o o' : Nat → Int32} {n s : Nat} (h : ∀ k, k < n → o k = o' k) : wyP S o n s ↔ wyP S o' n s := by
  unfold wyP
  constructor
  · intro hh k hk; rw [← h k hk]; exact hh k hk
  · intro hh k hk; rw [h k hk]; exact hh k hk
/-- the ways; those with a stroke low -/
def wyM (S : Nat → Int32) (n : Nat) : Nat := wyN S (cl S n) n
def lwM (S : Nat → Int32) (n k : Nat) : Nat := lwN S (cl S n) n k
theorem wyN_cl {S o : Nat → Int32} {n : Nat} : wyN S (clo S o n) n = wyM S n := wcn_ext (fun _ _ => wyP_ext (fun _ hk => clo_cl hk))
theorem lwN_cl {S o : Nat → Int32} {n k : Nat} : lwN S (clo S o n) n k = lwM S n k := wcn_ext (fun _ _ => and_congr_left' (wyP_ext (fun _ hk => clo_cl hk)))
theorem wyM_lt {S : Nat → Int32} {n : Nat} (hn : n ≤ 12) : wyM S n ≤ 4096 := Nat.le_trans (wcn_le _ _) (pw12 hn).2
theorem lwM_lt {S : Nat → Int32} {n k : Nat} (hn : n ≤ 12) : lwM S n k ≤ 4096 := Nat.le_trans (wcn_le _ _) (pw12 hn).2
/-- what a question may leave changed in the model -/
def KM (u u' : Nat → Int32) (A A' : Nat → Nat → Int32) : Prop := (∀ k, k ≠ 4 → k ≠ 15 → k ≠ 20 → k ≠ 22 → k ≠ 23 → u' k = u k) ∧ (∀ s, s ≠ 13 → s ≠ 14 → s ≠ 17 → s ≠ 21 → A' s = A s)
theorem KM.rf {u : Nat → Int32} {A : Nat → Nat → Int32} : KM u u A A := ⟨fun _ _ _ _ _ _ => rfl, fun _ _ _ _ _ => rfl⟩
theorem KM.trans {u u' u2 : Nat → Int32} {A A' A2 : Nat → Nat → Int32} (h : KM u u' A A') (g : KM u' u2 A' A2) : KM u u2 A A2 :=
  ⟨fun k a b c e f => (g.1 k a b c e f).trans (h.1 k a b c e f), fun s a b c e => (g.2 s a b c e).trans (h.2 s a b c e)⟩
theorem KM.u4 {u u' : Nat → Int32} {A A' : Nat → Nat → Int32} {x : Int32} (h : KM u u' A A') : KM u (upd u' 4 x) A A' := ⟨fun k a b c e f => by rw [pk_un a]; exact h.1 k a b c e f, h.2⟩
theorem KM.u20 {u u' : Nat → Int32} {A A' : Nat → Nat → Int32} {x : Int32} (h : KM u u' A A') : KM u (upd u' 20 x) A A' := ⟨fun k a b c e f => by rw [pk_un c]; exact h.1 k a b c e f, h.2⟩
theorem KM.a21 {u u' : Nat → Int32} {A A' : Nat → Nat → Int32} {x : Nat → Int32} (h : KM u u' A A') : KM u u' A (va_up A' 21 x) := ⟨h.1, fun s a b c e => by rw [vu_ne e]; exact h.2 s a b c e⟩
theorem KM.S {u u' : Nat → Int32} {A A' : Nat → Nat → Int32} (h : KM u u' A A') : A' 0 = A 0 := h.2 0 (by decide) (by decide) (by decide) (by decide)
/-- over and lower are laid -/
def LO (A : Nat → Nat → Int32) (n : Nat) : Prop := ∀ k, k < n → A 13 k = cl (A 0) n k
def LA (u : Nat → Int32) (A : Nat → Nat → Int32) (n : Nat) : Prop := LO A n ∧ u 15 = nI (wyM (A 0) n) ∧ ∀ k, k < n → A 14 k = nI (lwM (A 0) n k)
/-- the lengths of strokes -/
def LN (S : Nat → Int32) (n : Nat) (L : Nat → Nat) : Prop := ∀ k, k < n → S (7 + 4 * k + 3) = nI (L k) ∧ L k ≤ 9
def topM (S : Nat → Int32) (L : Nat → Nat) (n : Nat) (x y no : Int32) : Int32 := fst1 (fun k => bt (thr S L x y no n) k = true ∧ thr S L x y no n &&& (cl S n k ^^^ (-1)) = sb k) n
def senM (S : Nat → Int32) (L : Nat → Nat) (n : Nat) (x y no : Int32) : Int32 := if thr S L x y no n = 0 then 0 else if topM S L n x y no ≠ -1 ∧ lwM S n (topM S L n x y no).toNatClampNeg = wyM S n then 1 else 2
def shwM (S : Nat → Int32) (L : Nat → Nat) (n q : Nat) (wh no : Int32) : Int32 := acc (fun k => senM S L n (S (75 + 2 * q) + nI (k % 3)) (S (75 + 2 * q + 1) + nI (k / 3)) no = wh) 9
def fitM (S : Nat → Int32) (L : Nat → Nat) (n nl q : Nat) (no : Int32) : Int32 := acc (fun k => shwM S L n q 1 no &&& (S (55 + 2 * k + 1) ^^^ (-1)) = 0 ∧ shwM S L n q 0 no &&& S (55 + 2 * k + 1) = 0) nl
theorem fst1_cases (P : Nat → Prop) [DecidablePred P] (n : Nat) : fst1 P n = -1 ∨ ∃ k, k < n ∧ fst1 P n = nI k ∧ P k := by
  induction n with
  | zero => exact .inl rfl
  | succ k ih =>
    unfold fst1
    rcases ih with e | ⟨j, hj, e, hp⟩
    · rw [if_pos e]
      by_cases hp : P k
      · rw [if_pos hp]; exact .inr ⟨k, by omega, rfl, hp⟩
      · rw [if_neg hp]; exact .inl rfl
    · by_cases e1 : fst1 P k = -1
      · rw [if_pos e1]
        by_cases hp : P k
        · rw [if_pos hp]; exact .inr ⟨k, by omega, rfl, hp⟩
        · rw [if_neg hp]; exact .inl rfl
      · rw [if_neg e1]; exact .inr ⟨j, by omega, e, hp⟩
theorem s75 {k : Nat} : (75 : Int32) + 2 * nI k = nI (75 + 2 * k) := by rw [show (2 : Int32) = nI 2 from rfl, pk_mul, show (75 : Int32) = nI 75 from rfl, nI_add]
theorem s55 {k : Nat} : (55 : Int32) + 2 * nI k = nI (55 + 2 * k) := by rw [show (2 : Int32) = nI 2 from rfl, pk_mul, show (55 : Int32) = nI 55 from rfl, nI_add]
theorem s175 {k : Nat} : (175 : Int32) + 2 * nI k = nI (175 + 2 * k) := by rw [show (2 : Int32) = nI 2 from rfl, pk_mul, show (175 : Int32) = nI 175 from rfl, nI_add]
theorem s91 {k : Nat} : (91 : Int32) + 7 * nI k = nI (91 + 7 * k) := by rw [show (7 : Int32) = nI 7 from rfl, pk_mul, show (91 : Int32) = nI 91 from rfl, nI_add]
theorem s207 {k : Nat} : (207 : Int32) + nI k = nI (207 + k) := by rw [show (207 : Int32) = nI 207 from rfl, nI_add]
section M13
variable {X : HM} {EV : Nat → Value} {d : Nat} {hm : HM} {hs : Nat} {Q : QT} {m n : Nat} {u : Nat → Int32} {A : Nat → Nat → Int32} {R : Nat → Int64} {w h nl np nw nr : Nat} {L : Nat → Nat}
theorem m_laysOver2 (hM : MO hm m u A R) (hn : A 0 2 = nI n) (hn12 : n ≤ 12)
    (hQ : ∀ hm' A', MO hm' m u A' R → KM u u A A' → LO A' n → sm m (m + 16) hm hm' → Q none hm' hs) : CC X EV (d + 2) 189 [.ref m] hm hs Q := by
  refine m_laysOver hM hn hn12 (fun hm' hM' s' => hQ hm' _ hM' ⟨fun _ _ _ _ _ _ => rfl, fun s a b c e => vu_ne a⟩ (fun k hk => ?_) s')
  show va_up A 13 (clo (A 0) (A 13) n) 13 k = cl (A 0) n k
  rw [vu_eq, clo_cl hk]
theorem m_lays2 (hM : MO hm m u A R) (hn : A 0 2 = nI n) (hn12 : n ≤ 12)
    (hQ : ∀ hm' u' A', MO hm' m u' A' R → KM u u' A A' → LA u' A' n → sm m (m + 16) hm hm' → Q none hm' hs) : CC X EV (d + 3) 191 [.ref m] hm hs Q := by
  refine m_lays hM hn hn12 (fun hm' f hM' g1 s' => hQ hm' _ _ hM' ⟨fun k a b c e f => pk_un b, fun s a b c e => by rw [vu_ne b, vu_ne a]⟩ ⟨fun k hk => ?_, ?_, fun k hk => ?_⟩ s')
  · show clo (A 0) (A 13) n k = cl (A 0) n k
    exact clo_cl hk
  · rw [pk_us]; exact congrArg nI wyN_cl
  · show f k = nI (lwM (A 0) n k)
    rw [g1 k hk, lwN_cl]
theorem m_topOf2 {x y no : Int32} (hM : MO hm m u A R) (hn : A 0 2 = nI n) (hn12 : n ≤ 12) (hL : LN (A 0) n L) (hO : LO A n)
    (hQ : ∀ hm', MO hm' m (upd u 20 (thr (A 0) L x y no n)) A R → sm m (m + 16) hm hm' → Q (some (.int (topM (A 0) L n x y no))) hm' hs) : CC X EV (d + 4) 217 [.ref m, .int x, .int y, .int no] hm hs Q := by
  refine m_topOf hM hn hn12 hL (fun hm' hM' s' => ?_)
  have := hQ hm' hM' s'
  rw [show topM (A 0) L n x y no = _ from fst1_ext (R := fun k => bt (thr (A 0) L x y no n) k = true ∧ thr (A 0) L x y no n &&& (A 13 k ^^^ (-1)) = sb k) (fun i hi => by rw [hO i hi])] at this
  exact this
theorem m_seenOf {x y no : Int32} (hM : MO hm m u A R) (hn : A 0 2 = nI n) (hn12 : n ≤ 12) (hL : LN (A 0) n L) (hA : LA u A n)
    (hQ : ∀ hm' u', MO hm' m u' A R → (∀ k, k ≠ 20 → u' k = u k) → sm m (m + 16) hm hm' → Q (some (.int (senM (A 0) L n x y no))) hm' hs) : CC X EV (d + 5) 218 [.ref m, .int x, .int y, .int no] hm hs Q := by
  refine c_of (ls2 := [.ref m, .int x, .int y, .int no, .null]) Y218 (Nat.le_of_ble_eq_true rfl) rfl I218 ?_
  simp only [r_al0 dX10_seenOf_0, r_il1 dX10_seenOf_1, r_il2 dX10_seenOf_2, r_il3 dX10_seenOf_3, List.cons_append, List.nil_append, Nat.reduceAdd, Option.toList, z0]
  refine r_iv4 dX10_seenOf_4 M10_276 Y217 O217 (Nat.le_of_ble_eq_true rfl) (rcv_own hM.r) (Nat.le_refl _) (Nat.le_refl _) ?_
  refine m_topOf2 hM hn hn12 hL hA.1 (fun hm1 hM1 s1 => ?_)
  have hQ := hQ hm1 _ hM1 (fun k hk => pk_un hk) s1
  simp only [r_is4 dX10_seenOf_7, r_al0 dX10_seenOf_9, r_getf dX10_seenOf_10 F10_273, r_if_ne (tgt := 20) dX10_seenOf_13 rfl, r_iconst dX10_seenOf_16 ki0, r_goto (tgt := 40) dX10_seenOf_17 rfl, r_il4 dX10_seenOf_20, r_iconst dX10_seenOf_22 kim1, r_ic_eq (tgt := 39) dX10_seenOf_23 rfl, r_al0 dX10_seenOf_26, r_il4 dX10_seenOf_27, r_iconst dX10_seenOf_39 ki2, r_iret dX10_seenOf_40 (Nat.zero_le _) (Nat.zero_le _), List.cons_append, List.nil_append, Nat.reduceAdd, Option.toList, cat_f, cat_i, cat_n, cat_r, eq_self, g10_20, true_and, z0, hM1.r, rd_own hM1.r, hM1.r, rd_own hM1.r, pk_us]
  unfold senM at hQ
  refine ⟨fun h => ?_, fun h => ?_⟩
  · rw [if_neg h] at hQ
    rcases fst1_cases (fun k => bt (thr (A 0) L x y no n) k = true ∧ thr (A 0) L x y no n &&& (cl (A 0) n k ^^^ (-1)) = sb k) n with e | ⟨k, hk, e, -⟩
    · rw [show topM (A 0) L n x y no = -1 from e] at hQ ⊢
      rw [if_neg (fun z => z.1 rfl)] at hQ
      exact ⟨fun _ => hQ, fun z => absurd rfl z⟩
    · rw [show topM (A 0) L n x y no = nI k from e] at hQ ⊢
      rw [nI_clamp (by omega)] at hQ
      refine ⟨fun z => absurd z (nI_nm1 (by omega)), fun z => ?_⟩
      refine r_iv2 dX10_seenOf_29 M10_250 Y192 O192 (Nat.le_of_ble_eq_true rfl) (rcv_own hM1.r) (Nat.le_refl _) (Nat.le_refl _) ?_
      refine m_mustOf hM1 (by omega) ?_
      have e15 : (upd u 20 (thr (A 0) L x y no n)) 15 = nI (wyM (A 0) n) := (pk_un (by decide)).trans hA.2.1
      have l1 := wyM_lt (S := A 0) hn12
      have l2 := lwM_lt (S := A 0) (k := k) hn12
      rw [e15, hA.2.2 k hk]
      by_cases hq : lwM (A 0) n k = wyM (A 0) n
      · rw [if_pos ⟨z, hq⟩] at hQ
        rw [if_pos (congrArg nI hq)]
        simp only [r_if_ne (tgt := 39) dX10_seenOf_32 rfl, r_iconst dX10_seenOf_35 ki1, r_goto (tgt := 40) dX10_seenOf_36 rfl, r_iconst dX10_seenOf_39 ki2, r_iret dX10_seenOf_40 (Nat.zero_le _) (Nat.zero_le _), List.cons_append, List.nil_append, Nat.reduceAdd, Option.toList, z0]
        exact ⟨fun q => absurd trivial q, fun _ => hQ⟩
      · rw [if_neg (fun q => hq q.2)] at hQ
        rw [if_neg (fun q => hq ((nI_eq (by omega) (by omega)).mp q))]
        by_cases h0 : nI (lwM (A 0) n k) = 0
        · rw [if_pos h0]
          simp only [r_if_ne (tgt := 39) dX10_seenOf_32 rfl, r_iconst dX10_seenOf_35 ki1, r_goto (tgt := 40) dX10_seenOf_36 rfl, r_iconst dX10_seenOf_39 ki2, r_iret dX10_seenOf_40 (Nat.zero_le _) (Nat.zero_le _), List.cons_append, List.nil_append, Nat.reduceAdd, Option.toList, z0]
          exact ⟨fun _ => hQ, fun q => absurd (Classical.not_not.mp q) (by decide)⟩
        · rw [if_neg h0]
          simp only [r_if_ne (tgt := 39) dX10_seenOf_32 rfl, r_iconst dX10_seenOf_35 ki1, r_goto (tgt := 40) dX10_seenOf_36 rfl, r_iconst dX10_seenOf_39 ki2, r_iret dX10_seenOf_40 (Nat.zero_le _) (Nat.zero_le _), List.cons_append, List.nil_append, Nat.reduceAdd, Option.toList, z0]
          exact ⟨fun _ => hQ, fun q => absurd (Classical.not_not.mp q) (by decide)⟩
  · rw [if_pos (Classical.not_not.mp h)] at hQ
    exact hQ
theorem m_seen {x y : Int32} (hM : MO hm m u A R) (hn : A 0 2 = nI n) (hn12 : n ≤ 12) (hw : A 0 0 = nI w) (hw24 : w ≤ 24) (hh : A 0 1 = nI h) (hh12 : h ≤ 12) (hL : LN (A 0) n L)
    (hQ : ∀ hm' u' A', MO hm' m u' A' R → KM u u' A A' → sm m (m + 16) hm hm' → Q (some (.int (if (0 ≤ x ∧ x < nI w) ∧ (0 ≤ y ∧ y < nI h) then senM (A 0) L n x y (-1) else -2))) hm' hs) : CC X EV (d + 6) 220 [.ref m, .int x, .int y] hm hs Q := by
  have hM1 := hM.o (upd u 4 0)
  have s1 : sm m (m + 16) hm (im_up hm m (.inr (10, fs_MO m (upd u 4 0)))) := sm.rf.up (by omega)
  refine c_of (ls2 := [.ref m, .int x, .int y]) Y220 (Nat.le_of_ble_eq_true rfl) rfl I220 ?_
  simp (disch := first | omega | (simp only [List.length_cons, List.length_nil]; omega)) only [r_al0 dX10_seen_0, r_iconst dX10_seen_1 ki0, r_putf dX10_seen_2 F10_1, r_al0 dX10_seen_5, r_il1 dX10_seen_6, r_il2 dX10_seen_7, List.cons_append, List.nil_append, Nat.reduceAdd, Option.toList, fit_i, ft10_4, p10_4, pk_un, pk_us, rd_up_eq, rd_up_ne, true_and, up_eq, up_ne, up_up, z0, hM.r, rd_own hM.r, hM.r, rd_own hM.r]
  generalize im_up hm m (.inr (10, fs_MO m (upd u 4 0))) = hm1 at hM1 s1 ⊢
  refine r_iv3 dX10_seen_8 M10_165 Y172 O172 (Nat.le_of_ble_eq_true rfl) (rcv_own hM1.r) (Nat.le_refl _) (Nat.le_refl _) ?_
  refine m_isOnPage hM1 hw hw24 hh hh12 ?_
  simp only [r_if_ne (tgt := 17) dX10_seen_11 rfl, r_bipush dX10_seen_14 kbm2, r_iret dX10_seen_16 (Nat.zero_le _) (Nat.zero_le _), r_al0 dX10_seen_17, List.cons_append, List.nil_append, Nat.reduceAdd, Option.toList, z0]
  refine ⟨fun k => ?_, fun k => ?_⟩
  · rw [if_pos (Classical.not_not.mp k)] at hQ
    refine r_iv1 dX10_seen_18 M10_221 Y191 O191 (Nat.le_of_ble_eq_true rfl) (rcv_own hM1.r) (Nat.le_refl _) (Nat.le_refl _) ?_
    refine m_lays2 hM1 (n := n) hn hn12 (fun hm2 u2 A2 hM2 k2 l2 s2 => ?_)
    rw [← k2.S] at hn hL hQ
    simp only [r_al0 dX10_seen_21, r_il1 dX10_seen_22, r_il2 dX10_seen_23, r_iconst dX10_seen_24 kim1, List.cons_append, List.nil_append, Nat.reduceAdd, Option.toList, z0]
    refine r_iv4 dX10_seen_25 M10_280 Y218 O218 (Nat.le_of_ble_eq_true rfl) (rcv_own hM2.r) (Nat.le_refl _) (Nat.le_refl _) ?_
    refine m_seenOf hM2 hn hn12 hL l2 (fun hm3 u3 hM3 k3 s3 => ?_)
    simp only [r_iret dX10_seen_28 (Nat.zero_le _) (Nat.zero_le _), List.cons_append, List.nil_append, Nat.reduceAdd, Option.toList, z0]
    exact hQ hm3 u3 A2 hM3 ((KM.rf.u4.trans k2).trans ⟨fun k a b c e f => k3 k c, fun s _ _ _ _ => rfl⟩) ((s1.trans s2).trans s3)
  · rw [if_neg (Classical.not_not.mp k)] at hQ
    exact hQ _ _ _ hM1 KM.rf.u4 s1
theorem m_showsOf {q : Nat} {wh no : Int32} (hM : MO hm m u A R) (hn : A 0 2 = nI n) (hn12 : n ≤ 12) (hL : LN (A 0) n L) (hA : LA u A n) (hq : q < 8)
    (hQ : ∀ hm' u', MO hm' m u' A R → (∀ k, k ≠ 20 → u' k = u k) → sm m (m + 16) hm hm' → Q (some (.int (shwM (A 0) L n q wh no))) hm' hs) : CC X EV (d + 6) 222 [.ref m, .int (nI q), .int wh, .int no] hm hs Q := by
  refine c_of (ls2 := [.ref m, .int (nI q), .int wh, .int no, .null, .null]) Y222 (Nat.le_of_ble_eq_true rfl) rfl I222 ?_
  simp only [r_iconst dX10_showsOf_0 ki0, r_is4 dX10_showsOf_1, r_iconst dX10_showsOf_3 ki0, r_is5 dX10_showsOf_4, List.cons_append, List.nil_append, Nat.reduceAdd, Option.toList, cat_f, cat_i, cat_n, cat_r, eq_self, true_and, z0]
  suffices H : ∀ k, k ≤ 9 → ∀ hm' u', MO hm' m u' A R → (∀ k, k ≠ 20 → u' k = u k) → sm m (m + 16) hm hm' → E1 X EV (d + 5) 10 0 0 (some .int) false cX10_showsOf Q 6 [.ref m, .int (nI q), .int wh, .int no, .int (acc (fun k => senM (A 0) L n (A 0 (75 + 2 * q) + nI (k % 3)) (A 0 (75 + 2 * q + 1) + nI (k / 3)) no = wh) k), .int (nI k)] [] 0 0 hm' hs from
    H 0 (by omega) hm u hM (fun _ _ => rfl) sm.rf
  refine up_loop 9 _ ?_ ?_
  · intro hm' u' hM' k' s'
    simp only [r_il5 dX10_showsOf_6, r_bipush dX10_showsOf_8 kb9, r_ic_ge (tgt := 75) dX10_showsOf_10 rfl, r_il4 dX10_showsOf_13, r_al0 dX10_showsOf_15, r_al0 dX10_showsOf_16, r_getf dX10_showsOf_17 F10_13, r_bipush dX10_showsOf_20 kb75, r_iconst dX10_showsOf_22 ki2, r_il1 dX10_showsOf_23, r_imul dX10_showsOf_24, r_iadd dX10_showsOf_25, r_iald dX10_showsOf_26, r_il5 dX10_showsOf_27, r_iconst dX10_showsOf_29 ki3, r_irem dX10_showsOf_30, r_iadd dX10_showsOf_31, r_al0 dX10_showsOf_32, r_getf dX10_showsOf_33 F10_13, r_bipush dX10_showsOf_36 kb75, r_iconst dX10_showsOf_38 ki2, r_il1 dX10_showsOf_39, r_imul dX10_showsOf_40, r_iadd dX10_showsOf_41, r_iconst dX10_showsOf_42 ki1, r_iadd dX10_showsOf_43, r_iald dX10_showsOf_44, r_il5 dX10_showsOf_45, r_iconst dX10_showsOf_47 ki3, r_idiv dX10_showsOf_48, r_iadd dX10_showsOf_49, r_il3 dX10_showsOf_50, r_il4 dX10_showsOf_75, r_iret dX10_showsOf_77 (Nat.zero_le _) (Nat.zero_le _), List.cons_append, List.nil_append, Nat.reduceAdd, Option.toList, aI_ok, g10_0, z0]
    exact ⟨fun _ => hQ hm' u' hM' k' s', fun h => absurd (by decide) h⟩
  · intro k hk ih hm' u' hM' k' s'
    have e1 : nI k - nI k / 3 * 3 = nI (k % 3) := pk_rem (d := 3) (by omega) (by omega) (by omega)
    have e2 : nI k / 3 = nI (k / 3) := pk_div (d := 3) (by omega) (by omega) (by omega)
    simp only [r_il5 dX10_showsOf_6, r_bipush dX10_showsOf_8 kb9, r_ic_ge (tgt := 75) dX10_showsOf_10 rfl, r_il4 dX10_showsOf_13, r_al0 dX10_showsOf_15, r_al0 dX10_showsOf_16, r_getf dX10_showsOf_17 F10_13, r_bipush dX10_showsOf_20 kb75, r_iconst dX10_showsOf_22 ki2, r_il1 dX10_showsOf_23, r_imul dX10_showsOf_24, r_iadd dX10_showsOf_25, r_iald dX10_showsOf_26, r_il5 dX10_showsOf_27, r_iconst dX10_showsOf_29 ki3, r_irem dX10_showsOf_30, r_iadd dX10_showsOf_31, r_al0 dX10_showsOf_32, r_getf dX10_showsOf_33 F10_13, r_bipush dX10_showsOf_36 kb75, r_iconst dX10_showsOf_38 ki2, r_il1 dX10_showsOf_39, r_imul dX10_showsOf_40, r_iadd dX10_showsOf_41, r_iconst dX10_showsOf_42 ki1, r_iadd dX10_showsOf_43, r_iald dX10_showsOf_44, r_il5 dX10_showsOf_45, r_iconst dX10_showsOf_47 ki3, r_idiv dX10_showsOf_48, r_iadd dX10_showsOf_49, r_il3 dX10_showsOf_50, r_il4 dX10_showsOf_75, r_iret dX10_showsOf_77 (Nat.zero_le _) (Nat.zero_le _), List.cons_append, List.nil_append, Nat.reduceAdd, Option.toList, aI_ok, g10_0, z0, hM'.r, rd_own hM'.r, hM'.r0, rd_own hM'.r0, s75, nI_1, nI_clamp (show 75 + 2 * q < 2 ^ 31 by omega), nI_clamp (show 75 + 2 * q + 1 < 2 ^ 31 by omega)]
    refine ⟨fun h => absurd ((nI_leI (a := 9) (by omega) (by omega)).mp h) (by omega), fun _ => ⟨vp_in_nI (by omega) (by omega), by decide, vp_in_nI (by omega) (by omega), by decide, ?_⟩⟩
    rw [e1, e2]
    refine r_iv4 dX10_showsOf_51 M10_280 Y218 O218 (Nat.le_of_ble_eq_true rfl) (rcv_own hM'.r) (Nat.le_refl _) (Nat.le_refl _) ?_
    refine m_seenOf hM' hn hn12 hL ⟨hA.1, (k' 15 (by decide)).trans hA.2.1, hA.2.2⟩ (fun hm2 u2 hM2 k2 s2 => ?_)
    have ih := ih hm2 u2 hM2 (fun k h => (k2 k h).trans (k' k h)) (s'.trans s2)
    simp only [r_il2 dX10_showsOf_54, r_ic_ne (tgt := 65) dX10_showsOf_55 rfl, r_iconst dX10_showsOf_58 ki1, r_il5 dX10_showsOf_59, r_ishl dX10_showsOf_61, r_goto (tgt := 66) dX10_showsOf_62 rfl, r_iconst dX10_showsOf_65 ki0, r_ior dX10_showsOf_66, r_is4 dX10_showsOf_67, r_ii5 dX10_showsOf_69 kn1, r_gotoB (tgt := 6) dX10_showsOf_72 rfl, List.cons_append, List.nil_append, Nat.reduceAdd, Option.toList, cat_f, cat_i, cat_n, cat_r, eq_self, true_and, z0]
    refine ⟨fun h => ?_, fun h => ?_⟩
    · simp (disch := omega) only [E2, nI_1, nI_add, nI_leI, nI_ltI, nI_eq, nI_clamp]
      rw [acc_f (P := fun k => senM (A 0) L n (A 0 (75 + 2 * q) + nI (k % 3)) (A 0 (75 + 2 * q + 1) + nI (k / 3)) no = wh) h] at ih
      rw [or_0]
      exact ih
    · simp (disch := omega) only [E2, nI_1, nI_add, nI_leI, nI_ltI, nI_eq, nI_clamp]
      rw [acc_t (P := fun k => senM (A 0) L n (A 0 (75 + 2 * q) + nI (k % 3)) (A 0 (75 + 2 * q + 1) + nI (k / 3)) no = wh) (Classical.not_not.mp h)] at ih
      exact ih
theorem m_shows {q wh : Int32} (hM : MO hm m u A R) (hn : A 0 2 = nI n) (hn12 : n ≤ 12) (hL : LN (A 0) n L) (hp : A 0 4 = nI np) (hp8 : np ≤ 8)
    (h0 : ¬ ((0 ≤ q ∧ q < nI np) ∧ 0 ≤ wh ∧ wh ≤ 2) → ∀ hm' u' A', MO hm' m u' A' R → KM u u' A A' → sm m (m + 16) hm hm' → Q (some (.int (-2))) hm' hs)
    (hQ : ∀ i, i < np → q = nI i → 0 ≤ wh → wh ≤ 2 → ∀ hm' u' A', MO hm' m u' A' R → KM u u' A A' → sm m (m + 16) hm hm' → Q (some (.int (shwM (A 0) L n i wh (-1)))) hm' hs) : CC X EV (d + 7) 223 [.ref m, .int q, .int wh] hm hs Q := by
  have hM1 := hM.o (upd u 4 0)
  have s1 : sm m (m + 16) hm (im_up hm m (.inr (10, fs_MO m (upd u 4 0)))) := sm.rf.up (by omega)
  refine c_of (ls2 := [.ref m, .int q, .int wh]) Y223 (Nat.le_of_ble_eq_true rfl) rfl I223 ?_
  simp (disch := first | omega | (simp only [List.length_cons, List.length_nil]; omega)) only [r_al0 dX10_shows_0, r_iconst dX10_shows_1 ki0, r_putf dX10_shows_2 F10_1, r_al0 dX10_shows_5, r_il1 dX10_shows_6, List.cons_append, List.nil_append, Nat.reduceAdd, Option.toList, fit_i, ft10_4, p10_4, pk_un, pk_us, rd_up_eq, rd_up_ne, true_and, up_eq, up_ne, up_up, z0, hM.r, rd_own hM.r, hM.r, rd_own hM.r]
  generalize im_up hm m (.inr (10, fs_MO m (upd u 4 0))) = hm1 at hM1 s1 ⊢
  refine r_iv2 dX10_shows_7 M10_283 Y221 O221 (Nat.le_of_ble_eq_true rfl) (rcv_own hM1.r) (Nat.le_refl _) (Nat.le_refl _) ?_
  refine m_isPlace hM1 hp (by omega) ?_
  simp only [r_if_eq (tgt := 25) dX10_shows_10 rfl, r_il2 dX10_shows_13, r_i2l dX10_shows_14, r_lconst dX10_shows_15 kl0, r_ldc2 dX10_shows_16 K10_269, r_bipush dX10_shows_25 kbm2, r_iret dX10_shows_27 (Nat.zero_le _) (Nat.zero_le _), List.cons_append, List.nil_append, Nat.reduceAdd, Option.toList, z0]
  refine ⟨fun h => h0 (fun z => h z.1) _ _ _ hM1 KM.rf.u4 s1, fun h => ?_⟩
  refine r_ist3 dX10_shows_19 M10_83 Y155 (Nat.le_of_ble_eq_true rfl) (Nat.le_refl _) (Nat.le_refl _) ?_
  rw [l0_, show (2 : Int64) = (2 : Int32).toInt64 from rfl]
  refine m_in ?_
  simp only [r_if_ne (tgt := 28) dX10_shows_22 rfl, r_bipush dX10_shows_25 kbm2, r_iret dX10_shows_27 (Nat.zero_le _) (Nat.zero_le _), r_al0 dX10_shows_28, List.cons_append, List.nil_append, Nat.reduceAdd, Option.toList, z0]
  refine ⟨fun k => ?_, fun k => h0 (fun z => Classical.not_not.mp k z.2) _ _ _ hM1 KM.rf.u4 s1⟩
  obtain ⟨i, hi, rfl⟩ := ix (by omega) (Classical.not_not.mp h)
  have hQ := hQ i hi rfl (Classical.not_not.mp k).1 (Classical.not_not.mp k).2
  refine r_iv1 dX10_shows_29 M10_221 Y191 O191 (Nat.le_of_ble_eq_true rfl) (rcv_own hM1.r) (Nat.le_refl _) (Nat.le_refl _) ?_
  refine m_lays2 hM1 (n := n) hn hn12 (fun hm2 u2 A2 hM2 k2 l2 s2 => ?_)
  rw [← k2.S] at hn hL hQ
  simp only [r_al0 dX10_shows_32, r_il1 dX10_shows_33, r_il2 dX10_shows_34, r_iconst dX10_shows_35 kim1, List.cons_append, List.nil_append, Nat.reduceAdd, Option.toList, z0]
  refine r_iv4 dX10_shows_36 M10_286 Y222 O222 (Nat.le_of_ble_eq_true rfl) (rcv_own hM2.r) (Nat.le_refl _) (Nat.le_refl _) ?_
  refine m_showsOf hM2 hn hn12 hL l2 (by omega) (fun hm3 u3 hM3 k3 s3 => ?_)
  simp only [r_iret dX10_shows_39 (Nat.zero_le _) (Nat.zero_le _), List.cons_append, List.nil_append, Nat.reduceAdd, Option.toList, z0]
  exact hQ hm3 u3 A2 hM3 ((KM.rf.u4.trans k2).trans ⟨fun k a b c e f => k3 k c, fun s _ _ _ _ => rfl⟩) ((s1.trans s2).trans s3)
theorem m_fitsOf {q : Nat} {no : Int32} (hM : MO hm m u A R) (hn : A 0 2 = nI n) (hn12 : n ≤ 12) (hL : LN (A 0) n L) (hA : LA u A n) (hq : q < 8) (hl : A 0 3 = nI nl) (hl10 : nl ≤ 10)
    (hQ : ∀ hm' u', MO hm' m u' A R → (∀ k, k ≠ 20 → u' k = u k) → sm m (m + 16) hm hm' → Q (some (.int (fitM (A 0) L n nl q no))) hm' hs) : CC X EV (d + 7) 224 [.ref m, .int (nI q), .int no] hm hs Q := by
  refine c_of (ls2 := [.ref m, .int (nI q), .int no, .null, .null, .null, .null, .null]) Y224 (Nat.le_of_ble_eq_true rfl) rfl I224 ?_
  simp only [r_al0 dX10_fitsOf_0, r_il1 dX10_fitsOf_1, r_iconst dX10_fitsOf_2 ki1, r_il2 dX10_fitsOf_3, List.cons_append, List.nil_append, Nat.reduceAdd, Option.toList, z0]
  refine r_iv4 dX10_fitsOf_4 M10_286 Y222 O222 (Nat.le_of_ble_eq_true rfl) (rcv_own hM.r) (Nat.le_refl _) (Nat.le_refl _) ?_
  refine m_showsOf hM hn hn12 hL hA hq (fun hm1 u1 hM1 k1 s1 => ?_)
  simp only [r_is3 dX10_fitsOf_7, r_al0 dX10_fitsOf_8, r_il1 dX10_fitsOf_9, r_iconst dX10_fitsOf_10 ki0, r_il2 dX10_fitsOf_11, List.cons_append, List.nil_append, Nat.reduceAdd, Option.toList, cat_f, cat_i, cat_n, cat_r, eq_self, true_and, z0]
  refine r_iv4 dX10_fitsOf_12 M10_286 Y222 O222 (Nat.le_of_ble_eq_true rfl) (rcv_own hM1.r) (Nat.le_refl _) (Nat.le_refl _) ?_
  refine m_showsOf hM1 hn hn12 hL ⟨hA.1, (k1 15 (by decide)).trans hA.2.1, hA.2.2⟩ hq (fun hm2 u2 hM2 k2 s2 => ?_)
  have hQ := hQ hm2 u2 hM2 (fun k h => (k2 k h).trans (k1 k h)) (s1.trans s2)
  simp only [r_is4 dX10_fitsOf_15, r_iconst dX10_fitsOf_17 ki0, r_is5 dX10_fitsOf_18, r_iconst dX10_fitsOf_20 ki0, r_is6 dX10_fitsOf_21, List.cons_append, List.nil_append, Nat.reduceAdd, Option.toList, cat_f, cat_i, cat_n, cat_r, eq_self, true_and, z0]
  unfold fitM at hQ
  generalize shwM (A 0) L n q 1 no = e1 at hQ ⊢
  generalize shwM (A 0) L n q 0 no = e0 at hQ ⊢
  suffices H : ∀ k, k ≤ nl → ∀ w, E1 X EV (d + 6) 10 0 0 (some .int) false cX10_fitsOf Q 23 [.ref m, .int (nI q), .int no, .int e1, .int e0, .int (acc (fun k => e1 &&& (A 0 (55 + 2 * k + 1) ^^^ (-1)) = 0 ∧ e0 &&& A 0 (55 + 2 * k + 1) = 0) k), .int (nI k), w] [] 0 0 hm2 hs from H 0 (by omega) _
  refine up_loop nl _ ?_ ?_
  · intro w
    simp only [r_il6 dX10_fitsOf_23, r_al0 dX10_fitsOf_25, r_getf dX10_fitsOf_26 F10_13, r_iconst dX10_fitsOf_29 ki3, r_iald dX10_fitsOf_30, r_ic_ge (tgt := 86) dX10_fitsOf_31 rfl, r_al0 dX10_fitsOf_34, r_getf dX10_fitsOf_35 F10_13, r_bipush dX10_fitsOf_38 kb55, r_iconst dX10_fitsOf_40 ki2, r_il6 dX10_fitsOf_41, r_imul dX10_fitsOf_43, r_iadd dX10_fitsOf_44, r_iconst dX10_fitsOf_45 ki1, r_iadd dX10_fitsOf_46, r_iald dX10_fitsOf_47, r_is7 dX10_fitsOf_48, r_il5 dX10_fitsOf_50, r_il3 dX10_fitsOf_52, r_il7 dX10_fitsOf_53, r_iconst dX10_fitsOf_55 kim1, r_ixor dX10_fitsOf_56, r_iand dX10_fitsOf_57, r_if_ne (tgt := 76) dX10_fitsOf_58 rfl, r_il4 dX10_fitsOf_61, r_il7 dX10_fitsOf_63, r_iand dX10_fitsOf_65, r_if_ne (tgt := 76) dX10_fitsOf_66 rfl, r_iconst dX10_fitsOf_69 ki1, r_il6 dX10_fitsOf_70, r_ishl dX10_fitsOf_72, r_goto (tgt := 77) dX10_fitsOf_73 rfl, r_iconst dX10_fitsOf_76 ki0, r_ior dX10_fitsOf_77, r_is5 dX10_fitsOf_78, r_ii6 dX10_fitsOf_80 kn1, r_gotoB (tgt := 23) dX10_fitsOf_83 rfl, r_il5 dX10_fitsOf_86, r_iret dX10_fitsOf_88 (Nat.zero_le _) (Nat.zero_le _), List.cons_append, List.nil_append, Nat.reduceAdd, Option.toList, aI_ok, cat_f, cat_i, cat_n, cat_r, eq_self, g10_0, true_and, z0, hM2.r, rd_own hM2.r, hM2.r0, rd_own hM2.r0, vs3, ck3, hl, true_and]
    exact ⟨fun _ => hQ, fun h => absurd (Int32.le_refl _) h⟩
  · intro k hk ih w
    simp only [r_il6 dX10_fitsOf_23, r_al0 dX10_fitsOf_25, r_getf dX10_fitsOf_26 F10_13, r_iconst dX10_fitsOf_29 ki3, r_iald dX10_fitsOf_30, r_ic_ge (tgt := 86) dX10_fitsOf_31 rfl, r_al0 dX10_fitsOf_34, r_getf dX10_fitsOf_35 F10_13, r_bipush dX10_fitsOf_38 kb55, r_iconst dX10_fitsOf_40 ki2, r_il6 dX10_fitsOf_41, r_imul dX10_fitsOf_43, r_iadd dX10_fitsOf_44, r_iconst dX10_fitsOf_45 ki1, r_iadd dX10_fitsOf_46, r_iald dX10_fitsOf_47, r_is7 dX10_fitsOf_48, r_il5 dX10_fitsOf_50, r_il3 dX10_fitsOf_52, r_il7 dX10_fitsOf_53, r_iconst dX10_fitsOf_55 kim1, r_ixor dX10_fitsOf_56, r_iand dX10_fitsOf_57, r_if_ne (tgt := 76) dX10_fitsOf_58 rfl, r_il4 dX10_fitsOf_61, r_il7 dX10_fitsOf_63, r_iand dX10_fitsOf_65, r_if_ne (tgt := 76) dX10_fitsOf_66 rfl, r_iconst dX10_fitsOf_69 ki1, r_il6 dX10_fitsOf_70, r_ishl dX10_fitsOf_72, r_gotoB (tgt := 77) dX10_fitsOf_73 rfl, r_iconst dX10_fitsOf_76 ki0, r_il5 dX10_fitsOf_86, r_iret dX10_fitsOf_88 (Nat.zero_le _) (Nat.zero_le _), List.cons_append, List.nil_append, Nat.reduceAdd, Option.toList, aI_ok, cat_f, cat_i, cat_n, cat_r, eq_self, g10_0, true_and, z0, hM2.r, rd_own hM2.r, hM2.r0, rd_own hM2.r0, vs3, ck3, hl, true_and, s55, nI_1, nI_clamp (show 55 + 2 * k + 1 < 2 ^ 31 by omega)]
    have no0 : ¬ (e1 &&& (A 0 (55 + 2 * k + 1) ^^^ (-1)) = 0 ∧ e0 &&& A 0 (55 + 2 * k + 1) = 0) → E1 X EV (d + 6) 10 0 0 (some .int) false cX10_fitsOf Q 77 [.ref m, .int (nI q), .int no, .int e1, .int e0, .int (acc (fun k => e1 &&& (A 0 (55 + 2 * k + 1) ^^^ (-1)) = 0 ∧ e0 &&& A 0 (55 + 2 * k + 1) = 0) k), .int (nI k), .int (A 0 (55 + 2 * k + 1))] [.int 0, .int (acc (fun k => e1 &&& (A 0 (55 + 2 * k + 1) ^^^ (-1)) = 0 ∧ e0 &&& A 0 (55 + 2 * k + 1) = 0) k)] 0 0 hm2 hs := by
      intro hg
      have ih := ih (.int (A 0 (55 + 2 * k + 1)))
      rw [acc_f (P := fun k => e1 &&& (A 0 (55 + 2 * k + 1) ^^^ (-1)) = 0 ∧ e0 &&& A 0 (55 + 2 * k + 1) = 0) hg] at ih
      simp only [r_ior dX10_fitsOf_77, r_is5 dX10_fitsOf_78, r_ii6 dX10_fitsOf_80 kn1, r_gotoB (tgt := 23) dX10_fitsOf_83 rfl, List.cons_append, List.nil_append, Nat.reduceAdd, Option.toList, cat_f, cat_i, cat_n, cat_r, eq_self, true_and, z0]
      simp (disch := omega) only [E2, nI_1, nI_add, nI_leI, nI_ltI, nI_eq, nI_clamp]
      rw [or_0]
      exact ih
    refine ⟨fun h => absurd ((nI_leI (by omega) (by omega)).mp h) (by omega), fun _ => ⟨vp_in_nI (by omega) (by omega), fun h => ?_, fun h => ⟨fun h2 => ?_, fun h2 => ?_⟩⟩⟩
    · exact no0 (fun z => h z.1)
    · exact no0 (fun z => h2 z.2)
    · have ih := ih (.int (A 0 (55 + 2 * k + 1)))
      rw [acc_t (P := fun k => e1 &&& (A 0 (55 + 2 * k + 1) ^^^ (-1)) = 0 ∧ e0 &&& A 0 (55 + 2 * k + 1) = 0) ⟨Classical.not_not.mp h, Classical.not_not.mp h2⟩] at ih
      simp (disch := omega) only [E2, nI_1, nI_add, nI_leI, nI_ltI, nI_eq, nI_clamp]
      simp only [r_ior dX10_fitsOf_77, r_is5 dX10_fitsOf_78, r_ii6 dX10_fitsOf_80 kn1, r_gotoB (tgt := 23) dX10_fitsOf_83 rfl, List.cons_append, List.nil_append, Nat.reduceAdd, Option.toList, cat_f, cat_i, cat_n, cat_r, eq_self, true_and, z0]
      simp (disch := omega) only [E2, nI_1, nI_add, nI_leI, nI_ltI, nI_eq, nI_clamp]
      exact ih
theorem m_fits {q : Int32} (hM : MO hm m u A R) (hn : A 0 2 = nI n) (hn12 : n ≤ 12) (hL : LN (A 0) n L) (hp : A 0 4 = nI np) (hp8 : np ≤ 8) (hl : A 0 3 = nI nl) (hl10 : nl ≤ 10)
    (h0 : ¬ (0 ≤ q ∧ q < nI np) → ∀ hm' u' A', MO hm' m u' A' R → KM u u' A A' → sm m (m + 16) hm hm' → Q (some (.int (-2))) hm' hs)
    (hQ : ∀ i, i < np → q = nI i → ∀ hm' u' A', MO hm' m u' A' R → KM u u' A A' → sm m (m + 16) hm hm' → Q (some (.int (fitM (A 0) L n nl i (-1)))) hm' hs) : CC X EV (d + 8) 225 [.ref m, .int q] hm hs Q := by
  have hM1 := hM.o (upd u 4 0)
  have s1 : sm m (m + 16) hm (im_up hm m (.inr (10, fs_MO m (upd u 4 0)))) := sm.rf.up (by omega)
  refine c_of (ls2 := [.ref m, .int q]) Y225 (Nat.le_of_ble_eq_true rfl) rfl I225 ?_
  simp (disch := first | omega | (simp only [List.length_cons, List.length_nil]; omega)) only [r_al0 dX10_fits_0, r_iconst dX10_fits_1 ki0, r_putf dX10_fits_2 F10_1, r_al0 dX10_fits_5, r_il1 dX10_fits_6, List.cons_append, List.nil_append, Nat.reduceAdd, Option.toList, fit_i, ft10_4, p10_4, pk_un, pk_us, rd_up_eq, rd_up_ne, true_and, up_eq, up_ne, up_up, z0, hM.r, rd_own hM.r, hM.r, rd_own hM.r]
  generalize im_up hm m (.inr (10, fs_MO m (upd u 4 0))) = hm1 at hM1 s1 ⊢
  refine r_iv2 dX10_fits_7 M10_283 Y221 O221 (Nat.le_of_ble_eq_true rfl) (rcv_own hM1.r) (Nat.le_refl _) (Nat.le_refl _) ?_
  refine m_isPlace hM1 hp (by omega) ?_
  simp only [r_if_ne (tgt := 16) dX10_fits_10 rfl, r_bipush dX10_fits_13 kbm2, r_iret dX10_fits_15 (Nat.zero_le _) (Nat.zero_le _), r_al0 dX10_fits_16, List.cons_append, List.nil_append, Nat.reduceAdd, Option.toList, z0]
  refine ⟨fun h => ?_, fun h => h0 (Classical.not_not.mp h) _ _ _ hM1 KM.rf.u4 s1⟩
  obtain ⟨i, hi, rfl⟩ := ix (by omega) (Classical.not_not.mp h)
  have hQ := hQ i hi rfl
  refine r_iv1 dX10_fits_17 M10_221 Y191 O191 (Nat.le_of_ble_eq_true rfl) (rcv_own hM1.r) (Nat.le_refl _) (Nat.le_refl _) ?_
  refine m_lays2 hM1 (n := n) hn hn12 (fun hm2 u2 A2 hM2 k2 l2 s2 => ?_)
  rw [← k2.S] at hn hL hQ hl
  simp only [r_al0 dX10_fits_20, r_il1 dX10_fits_21, r_iconst dX10_fits_22 kim1, List.cons_append, List.nil_append, Nat.reduceAdd, Option.toList, z0]
  refine r_iv3 dX10_fits_23 M10_289 Y224 O224 (Nat.le_of_ble_eq_true rfl) (rcv_own hM2.r) (Nat.le_refl _) (Nat.le_refl _) ?_
  refine m_fitsOf hM2 hn hn12 hL l2 (by omega) hl hl10 (fun hm3 u3 hM3 k3 s3 => ?_)
  simp only [r_iret dX10_fits_26 (Nat.zero_le _) (Nat.zero_le _), List.cons_append, List.nil_append, Nat.reduceAdd, Option.toList, z0]
  exact hQ hm3 u3 A2 hM3 ((KM.rf.u4.trans k2).trans ⟨fun k a b c e f => k3 k c, fun s _ _ _ _ => rfl⟩) ((s1.trans s2).trans s3)
end M13
