/-! ===== the class's tables ===== -/
theorem lsum_s (f : Nat → Nat) (k : Nat) : lsum f (k + 1) = lsum f k + f k := rfl
theorem psh_t {o : Nat → Int32} {t : Nat} {T : Nat → Int32} : ∀ j, psh o t j T t = T t := by
  intro j
  induction j with
  | zero => rfl
  | succ j ih =>
    unfold psh
    split
    · rename_i h
      have := or_gt h.1
      rw [pk_un (by omega)]; exact ih
    · exact ih
theorem psh_eq {o : Nat → Int32} {t lt : Nat} {T : Nat → Int32} (hT : T t = nI lt) (s : Nat) : ∀ j, psh o t j T s = T s + nI (lsum (fun k => if lnC o s k ∧ s ^^^ 2 ^ k = t then lt else 0) j) := by
  intro j
  induction j with
  | zero => show T s = T s + nI 0; exact (Int32.add_zero _).symm
  | succ j ih =>
    unfold psh lsum
    rw [← nI_add, ← Int32.add_assoc, ← ih]
    by_cases h : t.testBit j = false ∧ o j &&& (nI t ^^^ (-1)) = 0
    · rw [if_pos h]
      obtain ⟨ox, ob⟩ := or_xor h.1
      by_cases e : s = t ||| 2 ^ j
      · rw [e, pk_us, psh_t, hT, if_pos ⟨⟨ob, by rw [ox]; exact h.2⟩, ox⟩]
      · rw [pk_un e, if_neg (fun z => e (by rw [← z.2, (xor_or z.1.1).1]))]
        exact (Int32.add_zero _).symm
    · rw [if_neg h, if_neg (fun z => h ⟨by rw [← z.2]; exact (xor_or z.1.1).2, by rw [← z.2]; exact z.1.2⟩)]
      exact (Int32.add_zero _).symm
theorem pal_eq {o T0 : Nat → Int32} {n : Nat} (h0 : T0 0 = 1) (h1 : ∀ s, 1 ≤ s → s < 2 ^ n → T0 s = 0) : ∀ t, t < 2 ^ n → ∀ s, s < 2 ^ n → pal o n t T0 s = nI ((if s = 0 then 1 else 0) + lsum (fun k => if lnC o s k ∧ s ^^^ 2 ^ k < t then lin o n (s ^^^ 2 ^ k) else 0) n) := by
  intro t
  induction t with
  | zero =>
    intro _ s hs
    rw [lsum_z (fun k _ => if_neg (fun z => Nat.not_lt_zero _ z.2))]
    show T0 s = _
    by_cases e : s = 0
    · rw [e, h0]; rfl
    · rw [if_neg e, h1 s (by omega) hs]; rfl
  | succ t ih =>
    intro ht s hs
    have ih := ih (by omega)
    have hlt : pal o n t T0 t = nI (lin o n t) := by
      rw [ih t (by omega), lin_eq]
      congr 2
      refine lsum_ext (fun k _ => ?_)
      by_cases c : lnC o t k
      · rw [if_pos c, if_pos ⟨c, xor_lt c.1⟩]
      · rw [if_neg c, if_neg (fun z => c z.1)]
    have split : lsum (fun k => if lnC o s k ∧ s ^^^ 2 ^ k < t + 1 then lin o n (s ^^^ 2 ^ k) else 0) n = lsum (fun k => if lnC o s k ∧ s ^^^ 2 ^ k < t then lin o n (s ^^^ 2 ^ k) else 0) n + lsum (fun k => if lnC o s k ∧ s ^^^ 2 ^ k = t then lin o n t else 0) n := by
      rw [← lsum_add]
      refine lsum_ext (fun k _ => ?_)
      by_cases c : lnC o s k
      · by_cases e : s ^^^ 2 ^ k = t
        · rw [if_pos ⟨c, by omega⟩, if_neg (fun z => by omega), if_pos ⟨c, e⟩, e, Nat.zero_add]
        · by_cases l : s ^^^ 2 ^ k < t
          · rw [if_pos ⟨c, by omega⟩, if_pos ⟨c, l⟩, if_neg (fun z => e z.2)]; rfl
          · rw [if_neg (fun z => by omega), if_neg (fun z => l z.2), if_neg (fun z => e z.2)]
      · rw [if_neg (fun z => c z.1), if_neg (fun z => c z.1), if_neg (fun z => c z.1)]
    rw [split]
    unfold pal
    by_cases hz : pal o n t T0 t = 0
    · rw [if_pos hz, ih s hs, ← Nat.add_assoc]
      have : nI (lsum (fun k => if lnC o s k ∧ s ^^^ 2 ^ k = t then lin o n t else 0) n) = 0 := by
        by_cases hx : ∃ k, k < n ∧ lnC o s k ∧ s ^^^ 2 ^ k = t
        · obtain ⟨k, hk, c, e⟩ := hx
          rw [lsum_b (i := k) hk (fun j _ hne => if_neg (fun z => hne (by
            have e1 : s ^^^ 2 ^ j = s ^^^ 2 ^ k := by rw [z.2, e]
            have e2 := congrArg (fun x => x.testBit j) e1
            simp only [xor_tb, if_true] at e2
            by_cases ejk : j = k
            · exact ejk
            · rw [if_neg ejk, z.1.1] at e2; cases e2))), if_pos ⟨c, e⟩, ← hlt]; exact hz
        · rw [lsum_z (fun k hk => if_neg (fun z => hx ⟨k, hk, z⟩))]; rfl
      rw [← nI_add _ (lsum (fun k => if lnC o s k ∧ s ^^^ 2 ^ k = t then lin o n t else 0) n), this]; exact (Int32.add_zero _).symm
    · rw [if_neg hz, psh_eq hlt s n, ih s hs, nI_add, Nat.add_assoc]
theorem tb1_lin {o T : Nat → Int32} {n : Nat} {all : Int32} (h : tb1 o n T all) : (∀ s, s < 2 ^ n → T s = nI (lin o n s)) ∧ all = nI (lin o n (2 ^ n - 1)) := by
  obtain ⟨T0, h0, h1, e, ea⟩ := h
  have p0 : 0 < 2 ^ n := Nat.two_pow_pos n
  have key : ∀ s, s < 2 ^ n → T s = nI (lin o n s) := by
    intro s hs
    rw [e, pal_eq h0 h1 (2 ^ n - 1) (by omega) s hs, lin_eq]
    congr 2
    refine lsum_ext (fun k _ => ?_)
    by_cases c : lnC o s k
    · rw [if_pos c, if_pos ⟨c, by have := xor_lt c.1; omega⟩]
    · rw [if_neg c, if_neg (fun z => c z.1)]
  exact ⟨key, by rw [ea]; exact key _ (by omega)⟩
theorem lsum_rev (f : Nat → Nat) : ∀ m, lsum (fun y => f (m - 1 - y)) m = lsum f m := by
  intro m
  induction m generalizing f with
  | zero => rfl
  | succ m ih =>
    have e1 : lsum f (m + 1) = f 0 + lsum (fun i => f (1 + i)) m := by
      rw [show m + 1 = 1 + m by omega, lsum_app]
      show (0 + f 0) + _ = _
      rw [Nat.zero_add]
    rw [e1, ← ih (fun i => f (1 + i))]
    show lsum (fun y => f (m + 1 - 1 - y)) m + f (m + 1 - 1 - m) = _
    rw [show m + 1 - 1 - m = 0 by omega, Nat.add_comm]
    congr 1
    refine lsum_ext (fun i hi => ?_)
    congr 1
    omega
theorem adE_at {set nx : Nat} {th : Int32} {E : Nat → Int32} {a b : Nat} (hb : b < 12) (hnx : nx < 12) : ∀ m, m ≤ 12 → adE set nx th m E (a * 12 + b) = if b = nx ∧ a < m ∧ set.testBit a = true then E (a * 12 + b) + th else E (a * 12 + b) := by
  intro m
  induction m with
  | zero => intro _; rw [if_neg (fun z => Nat.not_lt_zero _ z.2.1)]; rfl
  | succ m ih =>
    intro hm
    have ih := ih (by omega)
    unfold adE
    by_cases hs : set.testBit m = true
    · rw [if_pos hs]
      by_cases e : a * 12 + b = m * 12 + nx
      · have ea : a = m := by omega
        have eb : b = nx := by omega
        subst ea
        subst eb
        rw [pk_us, ih, if_neg (fun z => by omega), if_pos ⟨rfl, by omega, hs⟩]
      · rw [pk_un e, ih]
        by_cases c : b = nx ∧ a < m ∧ set.testBit a = true
        · rw [if_pos c, if_pos ⟨c.1, by omega, c.2.2⟩]
        · rw [if_neg c, if_neg (fun z => c ⟨z.1, by
            have : a ≠ m := fun e2 => e (by rw [e2, z.1])
            omega, z.2.2⟩)]
    · rw [if_neg hs, ih]
      by_cases c : b = nx ∧ a < m ∧ set.testBit a = true
      · rw [if_pos c, if_pos ⟨c.1, by omega, c.2.2⟩]
      · rw [if_neg c, if_neg (fun z => c ⟨z.1, by
          have : a ≠ m := fun e2 => hs (by rw [← e2]; exact z.2.2)
          omega, z.2.2⟩)]
section DT
variable {o T : Nat → Int32} {n : Nat}
abbrev XE (o : Nat → Int32) (n a b s : Nat) : Nat := if fnC o s b ∧ s.testBit a = true then lin o n s * fin o n (s ||| 2 ^ b) else 0
abbrev XP (o : Nat → Int32) (n b s : Nat) : Nat := if fnC o s b then cntb s 12 * (lin o n s * fin o n (s ||| 2 ^ b)) else 0
theorem XE_t {a b s : Nat} (c : fnC o s b) (h : s.testBit a = true) : XE o n a b s = lin o n s * fin o n (s ||| 2 ^ b) := if_pos ⟨c, h⟩
theorem XE_f {a b s : Nat} (h : ¬ (fnC o s b ∧ s.testBit a = true)) : XE o n a b s = 0 := if_neg h
theorem XP_t {b s : Nat} (c : fnC o s b) : XP o n b s = cntb s 12 * (lin o n s * fin o n (s ||| 2 ^ b)) := if_pos c
theorem XP_f {b s : Nat} (c : ¬ fnC o s b) : XP o n b s = 0 := if_neg c
theorem edge_le (hn : n ≤ 12) {s b : Nat} (hs : s < 2 ^ n) (hb : b < n) (c : fnC o s b) : lin o n s * fin o n (s ||| 2 ^ b) ≤ 479001600 := by
  have p0 : 0 < 2 ^ n := Nat.two_pow_pos n
  have h1 := lsum_one (f := fun s => if fnC o s b then lin o n s * fin o n (s ||| 2 ^ b) else 0) hs
  have h1 : (if fnC o s b then lin o n s * fin o n (s ||| 2 ^ b) else 0) ≤ _ := h1
  rw [if_pos c, cut o hb, ← lin_fin] at h1
  exact Nat.le_trans h1 (lin_12 hn (by omega))
theorem lin_up {s b : Nat} (hb : b < n) (c : fnC o s b) : lin o n s ≤ lin o n (s ||| 2 ^ b) := by
  obtain ⟨ox, ob⟩ := or_xor c.1
  rw [lin_eq o n (s ||| 2 ^ b)]
  have h1 := lsum_one (f := fun k => if lnC o (s ||| 2 ^ b) k then lin o n ((s ||| 2 ^ b) ^^^ 2 ^ k) else 0) hb
  have h1 : (if lnC o (s ||| 2 ^ b) b then lin o n ((s ||| 2 ^ b) ^^^ 2 ^ b) else 0) ≤ _ := h1
  rw [if_pos ⟨ob, by rw [ox]; exact c.2⟩, ox] at h1
  omega
theorem fin_full : fin o n (2 ^ n - 1) = 1 := by
  have p0 : 0 < 2 ^ n := Nat.two_pow_pos n
  rw [fin_eq o (by omega), if_pos rfl, lsum_z (fun k hk => if_neg (fun z => by have := z.1; rw [full_tb hk] at this; cases this))]
theorem cfr_eq {set : Nat} {q : FEP} (hn : n ≤ 12) (hs : set < 2 ^ n) (hT : T set = nI (lin o n set)) (h0 : q.1 set = 0) (hF : ∀ k, k < n → fnC o set k → q.1 (set ||| 2 ^ k) = nI (fin o n (set ||| 2 ^ k))) :
    ∀ k, k ≤ n → (cfr o T set k q).1 set = nI (lsum (fun i => if fnC o set i then fin o n (set ||| 2 ^ i) else 0) k) ∧ (∀ s, s ≠ set → (cfr o T set k q).1 s = q.1 s) ∧
      (∀ a b, a < 12 → b < n → (cfr o T set k q).2.1 (a * 12 + b) = q.2.1 (a * 12 + b) + nI (if b < k then XE o n a b set else 0)) ∧
      (∀ b, b < n → (cfr o T set k q).2.2 b = q.2.2 b + lN (if b < k then XP o n b set else 0)) := by
  intro k
  induction k with
  | zero =>
    intro _
    refine ⟨h0, fun _ _ => rfl, fun a b _ _ => ?_, fun b _ => ?_⟩
    · rw [if_neg (by omega)]; exact (Int32.add_zero _).symm
    · rw [if_neg (by omega)]; exact (Int64.add_zero _).symm
  | succ k ih =>
    intro hk
    obtain ⟨i1, i2, i3, i4⟩ := ih (by omega)
    have hp12 := pw12 hn
    unfold cfr
    by_cases c : set.testBit k = false ∧ o k &&& (nI set ^^^ (-1)) = 0
    · rw [if_pos c]
      have hgt := or_gt c.1
      have ef : (cfr o T set k q).1 (set ||| 2 ^ k) = nI (fin o n (set ||| 2 ^ k)) := by rw [i2 _ (by omega)]; exact hF k (by omega) c
      have hed := edge_le hn hs (show k < n by omega) c
      refine ⟨?_, ?_, ?_, ?_⟩
      · show upd _ set _ set = _
        rw [pk_us, i1, ef, nI_add, lsum_s, if_pos c]
      · intro s hne
        show upd _ set _ s = _
        rw [pk_un hne]; exact i2 s hne
      · intro a b ha hb
        show adE set k (T set * (cfr o T set k q).1 (set ||| 2 ^ k)) 12 (cfr o T set k q).2.1 (a * 12 + b) = _
        rw [adE_at (by omega) (by omega) 12 (Nat.le_refl _), ef, hT, pk_mul]
        by_cases e : b = k
        · subst e
          have hi3 := i3 a b ha hb
          rw [if_neg (by omega)] at hi3
          by_cases hsa : set.testBit a = true
          · rw [if_pos ⟨rfl, ha, hsa⟩, hi3, if_pos (by omega), XE_t c hsa]
            congr 1
            exact Int32.add_zero _
          · rw [if_neg (fun z => hsa z.2.2), hi3, if_pos (by omega), XE_f (fun z => hsa z.2)]
        · rw [if_neg (fun z => e z.1), i3 a b ha hb]
          by_cases hbk : b < k
          · rw [if_pos hbk, if_pos (by omega)]
          · rw [if_neg hbk, if_neg (by omega)]
      · intro b hb
        show vp_updL _ k _ b = _
        by_cases e : b = k
        · subst e
          have hi4 := i4 b hb
          rw [if_neg (by omega)] at hi4
          rw [pk_uLs, hi4, ef, hT, pk_mul, pcn_k set (by omega), nI_l (by have := cntb_le set 12; omega), nI_l (by omega), lN_mul, if_pos (by omega), XP_t c]
          congr 1
          exact Int64.add_zero _
        · rw [pk_uLn e, i4 b hb]
          by_cases hbk : b < k
          · rw [if_pos hbk, if_pos (by omega)]
          · rw [if_neg hbk, if_neg (by omega)]
    · rw [if_neg c]
      refine ⟨?_, i2, ?_, ?_⟩
      · rw [i1, lsum_s, if_neg c]; rfl
      · intro a b ha hb
        rw [i3 a b ha hb]
        by_cases e : b = k
        · subst e
          rw [if_neg (by omega), if_pos (by omega), XE_f (fun z => c z.1)]
        · by_cases hbk : b < k
          · rw [if_pos hbk, if_pos (by omega)]
          · rw [if_neg hbk, if_neg (by omega)]
      · intro b hb
        rw [i4 b hb]
        by_cases e : b = k
        · subst e
          rw [if_neg (by omega), if_pos (by omega), XP_f c]
        · by_cases hbk : b < k
          · rw [if_pos hbk, if_pos (by omega)]
          · rw [if_neg hbk, if_neg (by omega)]
theorem dfr_eq {q : FEP} (hn : n ≤ 12) (hT : ∀ s, s < 2 ^ n → T s = nI (lin o n s)) (h0 : q.1 (2 ^ n - 1) = 1) (hE : ∀ x, x < 144 → q.2.1 x = 0) (hP : ∀ x, x < 12 → q.2.2 x = 0) :
    ∀ j, j ≤ 2 ^ n - 1 → (∀ s, 2 ^ n - 1 - j ≤ s → s < 2 ^ n → lin o n s ≠ 0 → (dfr o T n j q).1 s = nI (fin o n s)) ∧
      (∀ a b, a < 12 → b < n → (dfr o T n j q).2.1 (a * 12 + b) = nI (lsum (fun y => XE o n a b (2 ^ n - 1 - 1 - y)) j)) ∧ (∀ b, b < n → (dfr o T n j q).2.2 b = lN (lsum (fun y => XP o n b (2 ^ n - 1 - 1 - y)) j)) := by
  have p0 : 0 < 2 ^ n := Nat.two_pow_pos n
  have hp12 := pw12 hn
  intro j
  induction j with
  | zero =>
    intro _
    refine ⟨fun s h1 h2 _ => ?_, fun a b ha hb => hE _ (by omega), fun b hb => hP _ (by omega)⟩
    rw [show s = 2 ^ n - 1 by omega, fin_full]; exact h0
  | succ j ih =>
    intro hj
    obtain ⟨i1, i2, i3⟩ := ih (by omega)
    have hset : 2 ^ n - 2 - j < 2 ^ n := by omega
    have e21 : 2 ^ n - 1 - 1 - j = 2 ^ n - 2 - j := by omega
    have hlb := lin_12 (o := o) hn hset
    have hz : T (2 ^ n - 2 - j) = 0 ↔ lin o n (2 ^ n - 2 - j) = 0 := by
      rw [hT _ hset]; exact nI_eq (b := 0) (by omega) (by omega)
    unfold dfr
    by_cases hz0 : T (2 ^ n - 2 - j) = 0
    · rw [if_pos hz0]
      have hl0 := hz.mp hz0
      refine ⟨fun s h1 h2 h3 => ?_, fun a b ha hb => ?_, fun b hb => ?_⟩
      · have hne : s ≠ 2 ^ n - 2 - j := fun e => h3 (by rw [e]; exact hl0)
        show upd _ (2 ^ n - 2 - j) 0 s = _
        rw [pk_un hne]; exact i1 s (by omega) h2 h3
      · show (dfr o T n j q).2.1 (a * 12 + b) = _
        rw [i2 a b ha hb, lsum_s, e21]
        congr 1
        have : XE o n a b (2 ^ n - 2 - j) = 0 := by
          unfold XE
          split
          · rw [hl0, Nat.zero_mul]
          · rfl
        rw [this]
        rfl
      · show (dfr o T n j q).2.2 b = _
        rw [i3 b hb, lsum_s, e21]
        congr 1
        have : XP o n b (2 ^ n - 2 - j) = 0 := by
          unfold XP
          split
          · rw [hl0, Nat.zero_mul, Nat.mul_zero]
          · rfl
        rw [this]
        rfl
    · rw [if_neg hz0]
      have hl0 : lin o n (2 ^ n - 2 - j) ≠ 0 := fun e => hz0 (hz.mpr e)
      obtain ⟨c1, c2, c3, c4⟩ := cfr_eq (o := o) (T := T) (q := (upd (dfr o T n j q).1 (2 ^ n - 2 - j) 0, (dfr o T n j q).2)) hn hset (hT _ hset) pk_us (fun k hk c => by
        have hgt := or_gt c.1
        show upd _ (2 ^ n - 2 - j) 0 _ = _
        rw [pk_un (by omega)]
        refine i1 _ (by omega) (or_lt hset hk) ?_
        have := lin_up hk c
        omega) n (Nat.le_refl n)
      refine ⟨fun s h1 h2 h3 => ?_, fun a b ha hb => ?_, fun b hb => ?_⟩
      · by_cases e : s = 2 ^ n - 2 - j
        · rw [e, c1, fin_eq o hset, if_neg (by omega), Nat.zero_add]
        · rw [c2 s e]
          show upd _ (2 ^ n - 2 - j) 0 s = _
          rw [pk_un e]; exact i1 s (by omega) h2 h3
      · rw [c3 a b ha hb, if_pos hb]
        show (dfr o T n j q).2.1 (a * 12 + b) + _ = _
        rw [i2 a b ha hb, lsum_s, e21, nI_add]
      · rw [c4 b hb, if_pos hb]
        show (dfr o T n j q).2.2 b + _ = _
        rw [i3 b hb, lsum_s, e21, lN_add]
theorem lsum_full {f : Nat → Nat} {n : Nat} (h : f (2 ^ n - 1) = 0) : lsum (fun y => f (2 ^ n - 1 - 1 - y)) (2 ^ n - 1) = lsum f (2 ^ n) := by
  have p0 : 0 < 2 ^ n := Nat.two_pow_pos n
  rw [lsum_rev f (2 ^ n - 1), show 2 ^ n = (2 ^ n - 1) + 1 by omega]
  show lsum f (2 ^ n - 1 + 1 - 1) = lsum f (2 ^ n - 1) + f (2 ^ n - 1)
  rw [h]; rfl
/-- ahead(), as it is kept -/
theorem tb2_E {E : Nat → Int32} {R : Nat → Int64} (hn : n ≤ 12) (h : tb2 o n E R) : (∀ a b, a < n → b < n → E (a * 12 + b) = nI (lin (upd o b (o b ||| sb a)) n (2 ^ n - 1))) ∧ (∀ b, b < n → R b = lN (lsum (XP o n b) (2 ^ n))) := by
  obtain ⟨T, all, F, F0, E0, R0, h1, h2, h3, h4, h5⟩ := h
  have hT := (tb1_lin h1).1
  obtain ⟨-, d2, d3⟩ := dfr_eq (o := o) (q := (F0, E0, R0)) hn hT h2 h3 h4 (2 ^ n - 1) (Nat.le_refl _)
  rw [← h5] at d2 d3
  constructor
  · intro a b ha hb
    have := d2 a b (by omega) hb
    rw [show E (a * 12 + b) = _ from this, lsum_full (f := XE o n a b) (by
      unfold XE
      rw [if_neg (fun z => by have := z.1.1; rw [full_tb hb] at this; cases this)])]
    exact congrArg nI (ahead_cut hn ha hb)
  · intro b hb
    have := d3 b hb
    rw [show R b = _ from this, lsum_full (f := XP o n b) (by
      unfold XP
      rw [if_neg (fun z => by have := z.1; rw [full_tb hb] at this; cases this)])]
end DT
