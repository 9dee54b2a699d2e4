/-! ===== pictures stay where nothing of theirs is written ===== -/
theorem AC.k {hm : HM} {p : Nat} {u : Nat → Int32} {A : Nat → Nat → Int32} (h : AC hm p u A) {a : Nat} {c : HC} (ha : a < p ∨ p + 4 ≤ a) : AC (im_up hm a c) p u A := h.fr (fun x h1 h2 => up_ne (by omega))
theorem AC.s {hm2 : HM} {lo hi : Nat} {hm : HM} {p : Nat} {u : Nat → Int32} {A : Nat → Nat → Int32} (h : AC hm p u A) (hs : sm lo hi hm hm2) (ha : hi ≤ p ∨ p + 4 ≤ lo) : AC hm2 p u A := h.fr (fun x h1 h2 => hs x (by omega))
theorem PG.k {hm : HM} {p : Nat} {u : Nat → Int32} {A : Nat → Nat → Int32} (h : PG hm p u A) {a : Nat} {c : HC} (ha : a < p ∨ p + 10 ≤ a) : PG (im_up hm a c) p u A := h.fr (fun x h1 h2 => up_ne (by omega))
theorem PG.s {hm2 : HM} {lo hi : Nat} {hm : HM} {p : Nat} {u : Nat → Int32} {A : Nat → Nat → Int32} (h : PG hm p u A) (hs : sm lo hi hm hm2) (ha : hi ≤ p ∨ p + 10 ≤ lo) : PG hm2 p u A := h.fr (fun x h1 h2 => hs x (by omega))
theorem RG.k {hm : HM} {p : Nat} {u : Nat → Int32} {A : Nat → Nat → Int32} (h : RG hm p u A) {a : Nat} {c : HC} (ha : a < p ∨ p + 3 ≤ a) : RG (im_up hm a c) p u A := h.fr (fun x h1 h2 => up_ne (by omega))
theorem RG.s {hm2 : HM} {lo hi : Nat} {hm : HM} {p : Nat} {u : Nat → Int32} {A : Nat → Nat → Int32} (h : RG hm p u A) (hs : sm lo hi hm hm2) (ha : hi ≤ p ∨ p + 3 ≤ lo) : RG hm2 p u A := h.fr (fun x h1 h2 => hs x (by omega))
theorem RW.k {hm : HM} {p : Nat} {u : Nat → Int32} {A : Nat → Nat → Int32} (h : RW hm p u A) {a : Nat} {c : HC} (ha : a < p ∨ p + 2 ≤ a) : RW (im_up hm a c) p u A := h.fr (fun x h1 h2 => up_ne (by omega))
theorem RW.s {hm2 : HM} {lo hi : Nat} {hm : HM} {p : Nat} {u : Nat → Int32} {A : Nat → Nat → Int32} (h : RW hm p u A) (hs : sm lo hi hm hm2) (ha : hi ≤ p ∨ p + 2 ≤ lo) : RW hm2 p u A := h.fr (fun x h1 h2 => hs x (by omega))
theorem SC.k {hm : HM} {p : Nat} {u : Nat → Int32} {A : Nat → Nat → Int32} (h : SC hm p u A) {a : Nat} {c : HC} (ha : a < p ∨ p + 11 ≤ a) : SC (im_up hm a c) p u A := h.fr (fun x h1 h2 => up_ne (by omega))
theorem SC.s {hm2 : HM} {lo hi : Nat} {hm : HM} {p : Nat} {u : Nat → Int32} {A : Nat → Nat → Int32} (h : SC hm p u A) (hs : sm lo hi hm hm2) (ha : hi ≤ p ∨ p + 11 ≤ lo) : SC hm2 p u A := h.fr (fun x h1 h2 => hs x (by omega))
theorem SI.k {hm : HM} {p : Nat} {u : Nat → Int32} {A : Nat → Nat → Int32} (h : SI hm p u A) {a : Nat} {c : HC} (ha : a < p ∨ p + 4 ≤ a) : SI (im_up hm a c) p u A := h.fr (fun x h1 h2 => up_ne (by omega))
theorem SI.s {hm2 : HM} {lo hi : Nat} {hm : HM} {p : Nat} {u : Nat → Int32} {A : Nat → Nat → Int32} (h : SI hm p u A) (hs : sm lo hi hm hm2) (ha : hi ≤ p ∨ p + 4 ≤ lo) : SI hm2 p u A := h.fr (fun x h1 h2 => hs x (by omega))
theorem TA.k {hm : HM} {p : Nat} {u : Nat → Int32} {A : Nat → Nat → Int32} {R : Nat → Int64} (h : TA hm p u A R) {a : Nat} {c : HC} (ha : a < p ∨ p + 5 ≤ a) : TA (im_up hm a c) p u A R := h.fr (fun x h1 h2 => up_ne (by omega))
theorem TA.s {hm2 : HM} {lo hi : Nat} {hm : HM} {p : Nat} {u : Nat → Int32} {A : Nat → Nat → Int32} {R : Nat → Int64} (h : TA hm p u A R) (hs : sm lo hi hm hm2) (ha : hi ≤ p ∨ p + 5 ≤ lo) : TA hm2 p u A R := h.fr (fun x h1 h2 => hs x (by omega))
theorem TP.k {hm : HM} {p : Nat} {u : Nat → Int32} {A : Nat → Nat → Int32} (h : TP hm p u A) {a : Nat} {c : HC} (ha : a < p ∨ p + 2 ≤ a) : TP (im_up hm a c) p u A := h.fr (fun x h1 h2 => up_ne (by omega))
theorem TP.s {hm2 : HM} {lo hi : Nat} {hm : HM} {p : Nat} {u : Nat → Int32} {A : Nat → Nat → Int32} (h : TP hm p u A) (hs : sm lo hi hm hm2) (ha : hi ≤ p ∨ p + 2 ≤ lo) : TP hm2 p u A := h.fr (fun x h1 h2 => hs x (by omega))
theorem MO.k {hm : HM} {p : Nat} {u : Nat → Int32} {A : Nat → Nat → Int32} {R : Nat → Int64} (h : MO hm p u A R) {a : Nat} {c : HC} (ha : a < p ∨ p + 16 ≤ a) : MO (im_up hm a c) p u A R := h.fr (fun x h1 h2 => up_ne (by omega))
theorem MO.s {hm2 : HM} {lo hi : Nat} {hm : HM} {p : Nat} {u : Nat → Int32} {A : Nat → Nat → Int32} {R : Nat → Int64} (h : MO hm p u A R) (hs : sm lo hi hm hm2) (ha : hi ≤ p ∨ p + 16 ≤ lo) : MO hm2 p u A R := h.fr (fun x h1 h2 => hs x (by omega))
/-! ===== Tally ===== -/
theorem orsb {a k : Nat} (hk : k < 31) : nI a ||| sb k = nI (a ||| 2 ^ k) := by
  apply b_ext
  intro i hi
  rw [b_or, b_nI hi, b_nI hi, b_sb (by omega) hi, Nat.testBit_or, Nat.testBit_two_pow]
  congr 1
  by_cases h : i = k
  · simp [h]
  · simp [h, Ne.symm h]
theorem or_lt {a k n : Nat} (ha : a < 2 ^ n) (hk : k < n) : a ||| 2 ^ k < 2 ^ n := Nat.or_lt_two_pow ha (Nat.pow_lt_pow_right (by omega) hk)
theorem whole_eq {n : Nat} (hn : n ≤ 12) : (1 : Int32) <<< (nI n &&& 31) - 1 = nI (2 ^ n - 1) := by
  have : ∀ n, n < 13 → (1 : Int32) <<< (nI n &&& 31) - 1 = nI (2 ^ n - 1) := by decide +kernel
  exact this n (by omega)
theorem pw12 {n : Nat} (hn : n ≤ 12) : 1 ≤ 2 ^ n ∧ 2 ^ n ≤ 4096 := ⟨Nat.one_le_two_pow, by have := Nat.pow_le_pow_right (show 0 < 2 by omega) hn; simpa using this⟩
/-- a stroke may come next -/
def nxt (bl : Nat → Int32) (set k : Nat) : Prop := set.testBit k = false ∧ bl k &&& (nI set ^^^ (-1)) = 0
def psh (bl : Nat → Int32) (set : Nat) : Nat → (Nat → Int32) → (Nat → Int32)
  | 0, T => T
  | k + 1, T => if set.testBit k = false ∧ bl k &&& (nI set ^^^ (-1)) = 0 then upd (psh bl set k T) (set ||| 2 ^ k) (psh bl set k T (set ||| 2 ^ k) + psh bl set k T set) else psh bl set k T
def pal (bl : Nat → Int32) (n : Nat) : Nat → (Nat → Int32) → (Nat → Int32)
  | 0, T => T
  | s + 1, T => if pal bl n s T s = 0 then pal bl n s T else psh bl s n (pal bl n s T)
def adE (set nx : Nat) (th : Int32) : Nat → (Nat → Int32) → (Nat → Int32)
  | 0, E => E
  | k + 1, E => if set.testBit k = true then upd (adE set nx th k E) (k * 12 + nx) (adE set nx th k E (k * 12 + nx) + th) else adE set nx th k E
abbrev FEP : Type := (Nat → Int32) × (Nat → Int32) × (Nat → Int64)
def cfr (bl T : Nat → Int32) (set : Nat) : Nat → FEP → FEP
  | 0, q => q
  | k + 1, q => if set.testBit k = false ∧ bl k &&& (nI set ^^^ (-1)) = 0 then
      (upd (cfr bl T set k q).1 set ((cfr bl T set k q).1 set + (cfr bl T set k q).1 (set ||| 2 ^ k)), adE set k (T set * (cfr bl T set k q).1 (set ||| 2 ^ k)) 12 (cfr bl T set k q).2.1, vp_updL (cfr bl T set k q).2.2 k ((cfr bl T set k q).2.2 k + (pcnt (nI set)).toInt64 * (T set * (cfr bl T set k q).1 (set ||| 2 ^ k)).toInt64))
    else cfr bl T set k q
def dfr (bl T : Nat → Int32) (n : Nat) : Nat → FEP → FEP
  | 0, q => q
  | j + 1, q => if T (2 ^ n - 2 - j) = 0 then (upd (dfr bl T n j q).1 (2 ^ n - 2 - j) 0, (dfr bl T n j q).2) else cfr bl T (2 ^ n - 2 - j) n (upd (dfr bl T n j q).1 (2 ^ n - 2 - j) 0, (dfr bl T n j q).2)
def askd (E : Nat → Int32) (a b : Nat) : Int32 := if E (a * 12 + b) < E (b * 12 + a) then E (b * 12 + a) else E (a * 12 + b)
def bst1 (cr bl : Nat → Int32) (E : Nat → Int32) (a : Nat) : Nat → Int32 × Int32 → Int32 × Int32
  | 0, q => q
  | j + 1, q => if (bt (cr a) (a + 1 + j) = true ∧ bt (bl a) (a + 1 + j) = false ∧ bt (bl (a + 1 + j)) a = false) ∧ ((bst1 cr bl E a j q).1 = -1 ∨ askd E a (a + 1 + j) < (bst1 cr bl E a j q).2) then (nI (a * 12 + (a + 1 + j)), askd E a (a + 1 + j)) else bst1 cr bl E a j q
def bst (cr bl : Nat → Int32) (E : Nat → Int32) (n : Nat) : Nat → Int32 × Int32
  | 0 => (-1, 0)
  | a + 1 => bst1 cr bl E a (n - 1 - a) (bst cr bl E n a)
def wysv (T : Nat → Int32) (lo up : Int32) : Nat → Nat
  | 0 => 0
  | s + 1 => if T s ≠ 0 ∧ lo &&& (nI s ^^^ (-1)) = 0 ∧ up &&& nI s = 0 then wysv T lo up s + 1 else wysv T lo up s
theorem wysv_le (T : Nat → Int32) (lo up : Int32) (s : Nat) : wysv T lo up s ≤ s := by
  induction s with
  | zero => exact Nat.le_refl _
  | succ s ih => unfold wysv; split <;> omega
theorem tstN {set k : Nat} (hk : k < 32) : (nI set >>> (nI k &&& 31) &&& 1 = 0) = (set.testBit k = false) := by rw [tst0 hk, b_nI hk]
section T1
variable {X : HM} {EV : Nat → Value} {d : Nat} {hm : HM} {hs : Nat} {Q : QT} {p g : Nat} {u pu : Nat → Int32} {A pA : Nat → Nat → Int32} {R : Nat → Int64} {B n : Nat}
theorem c_addOneStroke {set : Nat} (hP : TA hm p u A R) (hG : PG hm g pu pA) (hpg : p + 5 ≤ g ∨ g + 10 ≤ p) (hn : pu 2 = nI n) (hn12 : n ≤ 12) (hset : set < 2 ^ n)
    (hQ : ∀ hm' A', TA hm' p u A' R → (∀ s, s ≠ 3 → A' s = A s) → A' 3 = psh (pA 12) set n (A 3) → sm p (p + 5) hm hm' → Q none hm' hs) : CC X EV (d + 1) 88 [.ref p, .ref g, .int (nI set)] hm hs Q := by
  have hpw := pw12 hn12
  refine c_of (ls2 := [.ref p, .ref g, .int (nI set), .null]) Y88 (Nat.le_of_ble_eq_true rfl) rfl I88 ?_
  simp only [r_iconst dX7_addOneStroke_0 ki0, r_is3 dX7_addOneStroke_1, List.cons_append, List.nil_append, Nat.reduceAdd, Option.toList, cat_f, cat_i, cat_n, cat_r, eq_self, true_and, z0]
  suffices H : ∀ k, k ≤ n → ∀ hm' A', TA hm' p u A' R → PG hm' g pu pA → (∀ s, s ≠ 3 → A' s = A s) → A' 3 = psh (pA 12) set k (A 3) → sm p (p + 5) hm hm' → E1 X EV d 7 0 0 none false cX7_addOneStroke Q 2 [.ref p, .ref g, .int (nI set), .int (nI k)] [] 0 0 hm' hs from
    H 0 (Nat.zero_le n) hm A hP hG (fun _ _ => rfl) rfl sm.rf
  refine up_loop n _ ?_ ?_
  · intro hm' A' hP' hG' h1 h2 h3
    simp (disch := first | omega | (simp only [List.length_cons, List.length_nil]; omega)) only [r_il3 dX7_addOneStroke_2, r_al1 dX7_addOneStroke_3, r_getf dX7_addOneStroke_4 F7_40, r_ic_ge (tgt := 56) dX7_addOneStroke_7 rfl, r_il2 dX7_addOneStroke_10, r_il3 dX7_addOneStroke_11, r_ishr dX7_addOneStroke_12, r_iconst dX7_addOneStroke_13 ki1, r_iand dX7_addOneStroke_14, r_if_ne (tgt := 50) dX7_addOneStroke_15 rfl, r_al1 dX7_addOneStroke_18, r_getf dX7_addOneStroke_19 F7_49, r_il3 dX7_addOneStroke_22, r_iald dX7_addOneStroke_23, r_il2 dX7_addOneStroke_24, r_iconst dX7_addOneStroke_25 kim1, r_ixor dX7_addOneStroke_26, r_iand dX7_addOneStroke_27, r_if_ne (tgt := 50) dX7_addOneStroke_28 rfl, r_al0 dX7_addOneStroke_31, r_getf dX7_addOneStroke_32 F7_22, r_il2 dX7_addOneStroke_35, r_iconst dX7_addOneStroke_36 ki1, r_il3 dX7_addOneStroke_37, r_ishl dX7_addOneStroke_38, r_ior dX7_addOneStroke_39, r_dup2_ir dX7_addOneStroke_40, r_dup2_l dX7_addOneStroke_40, r_iald dX7_addOneStroke_41, r_al0 dX7_addOneStroke_42, r_getf dX7_addOneStroke_43 F7_22, r_il2 dX7_addOneStroke_46, r_iald dX7_addOneStroke_47, r_iadd dX7_addOneStroke_48, r_iast dX7_addOneStroke_49, r_ii3 dX7_addOneStroke_50 kn1, r_gotoB (tgt := 2) dX7_addOneStroke_53 rfl, r_vret dX7_addOneStroke_56 (Nat.zero_le _) (Nat.zero_le _), List.cons_append, List.nil_append, Nat.reduceAdd, Option.toList, aI_ok, cat_f, cat_i, cat_n, cat_r, eq_self, g1_12, g1_2, g7_3, pk_un, pk_us, rd_up_eq, rd_up_ne, sI_ok, true_and, up_eq, up_ne, up_up, z0, hP'.r, rd_own hP'.r, hP'.r, rd_own hP'.r, hG'.r, rd_own hG'.r, hG'.r, rd_own hG'.r, hn]
    exact ⟨fun _ => hQ hm' A' hP' h1 h2 h3, fun h => absurd (Int32.le_refl _) h⟩
  · intro k hk ih hm' A' hP' hG' h1 h2 h3
    have hor := or_lt hset hk
    have e1 : nI set ||| (1 : Int32) <<< (nI k &&& 31) = nI (set ||| 2 ^ k) := orsb (by omega)
    simp (disch := first | omega | (simp only [List.length_cons, List.length_nil]; omega)) only [r_il3 dX7_addOneStroke_2, r_al1 dX7_addOneStroke_3, r_getf dX7_addOneStroke_4 F7_40, r_ic_ge (tgt := 56) dX7_addOneStroke_7 rfl, r_il2 dX7_addOneStroke_10, r_il3 dX7_addOneStroke_11, r_ishr dX7_addOneStroke_12, r_iconst dX7_addOneStroke_13 ki1, r_iand dX7_addOneStroke_14, r_if_ne (tgt := 50) dX7_addOneStroke_15 rfl, r_al1 dX7_addOneStroke_18, r_getf dX7_addOneStroke_19 F7_49, r_il3 dX7_addOneStroke_22, r_iald dX7_addOneStroke_23, r_il2 dX7_addOneStroke_24, r_iconst dX7_addOneStroke_25 kim1, r_ixor dX7_addOneStroke_26, r_iand dX7_addOneStroke_27, r_if_ne (tgt := 50) dX7_addOneStroke_28 rfl, r_al0 dX7_addOneStroke_31, r_getf dX7_addOneStroke_32 F7_22, r_il2 dX7_addOneStroke_35, r_iconst dX7_addOneStroke_36 ki1, r_il3 dX7_addOneStroke_37, r_ishl dX7_addOneStroke_38, r_ior dX7_addOneStroke_39, r_dup2_ir dX7_addOneStroke_40, r_dup2_l dX7_addOneStroke_40, r_iald dX7_addOneStroke_41, r_al0 dX7_addOneStroke_42, r_getf dX7_addOneStroke_43 F7_22, r_il2 dX7_addOneStroke_46, r_iald dX7_addOneStroke_47, r_iadd dX7_addOneStroke_48, r_iast dX7_addOneStroke_49, r_ii3 dX7_addOneStroke_50 kn1, r_gotoB (tgt := 2) dX7_addOneStroke_53 rfl, r_vret dX7_addOneStroke_56 (Nat.zero_le _) (Nat.zero_le _), List.cons_append, List.nil_append, Nat.reduceAdd, Option.toList, aI_ok, cat_f, cat_i, cat_n, cat_r, eq_self, g1_12, g1_2, g7_3, pk_un, pk_us, rd_up_eq, rd_up_ne, sI_ok, true_and, up_eq, up_ne, up_up, z0, hP'.r, rd_own hP'.r, hP'.r3, rd_own hP'.r3, hG'.r, rd_own hG'.r, hG'.r12, rd_own hG'.r12, hn, tstN (show k < 32 by omega), e1]
    simp (disch := omega) only [E2, nI_1, nI_add, nI_leI, nI_ltI, nI_eq, nI_clamp]
    have hik := vp_in_nI (show k < 12 by omega) (by omega)
    have his := vp_in_nI (show set < 4096 by omega) (by omega)
    have hio := vp_in_nI (show set ||| 2 ^ k < 4096 by omega) (by omega)
    refine ⟨fun h => absurd h (by omega), fun _ => ⟨fun hb => ?_, fun hb => ⟨hik, fun hc => ?_, fun hc => ⟨hio, his, hio, ?_⟩⟩⟩⟩
    · exact ih hm' A' hP' hG' h1 (by rw [h2]; exact (if_neg (fun q => hb q.1)).symm) h3
    · exact ih hm' A' hP' hG' h1 (by rw [h2]; exact (if_neg (fun q => hc q.2)).symm) h3
    · refine ih _ _ (hP'.w3 _) (hG'.k (by omega)) (fun s a => by rw [vu_ne a]; exact h1 s a) ?_ (h3.up (by omega))
      rw [vu_eq, h2]
      exact (if_pos ⟨Classical.not_not.mp hb, Classical.not_not.mp hc⟩).symm
theorem c_countRowsTo (hP : TA hm p u A R) (hG : PG hm g pu pA) (hpg : p + 5 ≤ g ∨ g + 10 ≤ p) (hn : pu 2 = nI n) (hn12 : n ≤ 12)
    (hQ : ∀ hm' A' T0, TA hm' p u A' R → (∀ s, s ≠ 3 → A' s = A s) → T0 0 = 1 → (∀ s, 1 ≤ s → s < 2 ^ n → T0 s = 0) → A' 3 = pal (pA 12) n (2 ^ n - 1) T0 → sm p (p + 5) hm hm' → Q (some (.int (pal (pA 12) n (2 ^ n - 1) T0 (2 ^ n - 1)))) hm' hs) : CC X EV (d + 2) 87 [.ref p, .ref g] hm hs Q := by
  have hpw := pw12 hn12
  refine c_of (ls2 := [.ref p, .ref g, .null, .null]) Y87 (Nat.le_of_ble_eq_true rfl) rfl I87 ?_
  simp only [r_iconst dX7_countRowsTo_0 ki1, r_al1 dX7_countRowsTo_1, r_getf dX7_countRowsTo_2 F7_40, r_ishl dX7_countRowsTo_5, r_iconst dX7_countRowsTo_6 ki1, r_isub dX7_countRowsTo_7, r_is2 dX7_countRowsTo_8, r_iconst dX7_countRowsTo_9 ki1, r_is3 dX7_countRowsTo_10, List.cons_append, List.nil_append, Nat.reduceAdd, Option.toList, cat_f, cat_i, cat_n, cat_r, eq_self, g1_2, true_and, z0, hP.r, rd_own hP.r, hP.r, rd_own hP.r, hG.r, rd_own hG.r, hG.r, rd_own hG.r, hn, whole_eq hn12]
  suffices H : ∀ k, k ≤ 2 ^ n - 1 → ∀ hm' A', TA hm' p u A' R → PG hm' g pu pA → (∀ s, s ≠ 3 → A' s = A s) → (∀ s, 1 ≤ s → s ≤ k → A' 3 s = 0) → sm p (p + 5) hm hm' → E1 X EV (d + 1) 7 0 0 (some .int) false cX7_countRowsTo Q 11 [.ref p, .ref g, .int (nI (2 ^ n - 1)), .int (nI (k + 1))] [] 0 0 hm' hs from
    H 0 (Nat.zero_le _) hm A hP hG (fun _ _ => rfl) (fun s h1 h2 => absurd h2 (by omega)) sm.rf
  refine up_loop (2 ^ n - 1) _ ?_ ?_
  · intro hm' A' hP' hG' h1 h2 h3
    simp (disch := first | omega | (simp only [List.length_cons, List.length_nil]; omega)) only [r_il3 dX7_countRowsTo_11, r_il2 dX7_countRowsTo_12, r_ic_gt (tgt := 29) dX7_countRowsTo_13 rfl, r_al0 dX7_countRowsTo_16, r_getf dX7_countRowsTo_17 F7_22, r_il3 dX7_countRowsTo_20, r_iconst dX7_countRowsTo_21 ki0, r_iast dX7_countRowsTo_22, r_ii3 dX7_countRowsTo_23 kn1, r_gotoB (tgt := 11) dX7_countRowsTo_26 rfl, r_al0 dX7_countRowsTo_29, r_getf dX7_countRowsTo_30 F7_22, r_iconst dX7_countRowsTo_33 ki0, r_iconst dX7_countRowsTo_34 ki1, r_iast dX7_countRowsTo_35, r_iconst dX7_countRowsTo_36 ki0, r_is3 dX7_countRowsTo_37, List.cons_append, List.nil_append, Nat.reduceAdd, Option.toList, cat_f, cat_i, cat_n, cat_r, eq_self, g7_3, pk_un, pk_us, rd_up_eq, rd_up_ne, sI_ok, true_and, up_eq, up_ne, up_up, z0, hP'.r, rd_own hP'.r, hP'.r3, rd_own hP'.r3, show (1 : Int32) = nI 1 from rfl, show (0 : Int32) = nI 0 from rfl, nI_clamp (show 0 < 2 ^ 31 by omega)]
    simp (disch := omega) only [E2, nI_1, nI_add, nI_leI, nI_ltI, nI_eq, nI_clamp]
    refine ⟨fun _ => ⟨vp_in_nI (by omega) (by omega), ?_⟩, fun h => absurd (by omega) h⟩
    have hP2 := hP'.w3 (upd (A' 3) 0 (nI 1))
    have hG2 : PG (im_up hm' (p + 1) (ia 4096 (upd (A' 3) 0 (nI 1)))) g pu pA := hG'.k (by omega)
    obtain ⟨T0, eT⟩ : ∃ z, z = upd (A' 3) 0 (nI 1) := ⟨_, rfl⟩
    rw [← eT] at hP2 hG2 ⊢
    have ht0 : T0 0 = 1 := by rw [eT, pk_us]; rfl
    have ht1 : ∀ s, 1 ≤ s → s < 2 ^ n → T0 s = 0 := fun s a b => by rw [eT, pk_un (by omega)]; exact h2 s a (by omega)
    suffices H : ∀ k, k ≤ 2 ^ n - 1 → ∀ hm2 A2, TA hm2 p u A2 R → PG hm2 g pu pA → (∀ s, s ≠ 3 → A2 s = A s) → A2 3 = pal (pA 12) n k T0 → sm p (p + 5) hm hm2 → E1 X EV (d + 1) 7 0 0 (some .int) false cX7_countRowsTo Q 38 [.ref p, .ref g, .int (nI (2 ^ n - 1)), .int (nI k)] [] 0 0 hm2 hs from
      H 0 (by omega) _ _ hP2 hG2 (fun s a => by rw [vu_ne a]; exact h1 s a) (vu_eq _ _ _) (h3.up (by omega))
    refine up_loop (2 ^ n - 1) _ ?_ ?_
    · intro hm2 A2 hP2 hG2 g1 g2 g3
      simp only [r_il3 dX7_countRowsTo_38, r_il2 dX7_countRowsTo_39, r_ic_ge (tgt := 64) dX7_countRowsTo_40 rfl, r_al0 dX7_countRowsTo_43, r_getf dX7_countRowsTo_44 F7_22, r_il3 dX7_countRowsTo_47, r_iald dX7_countRowsTo_48, r_if_eq (tgt := 58) dX7_countRowsTo_49 rfl, r_al0 dX7_countRowsTo_52, r_al1 dX7_countRowsTo_53, r_il3 dX7_countRowsTo_54, r_ii3 dX7_countRowsTo_58 kn1, r_gotoB (tgt := 38) dX7_countRowsTo_61 rfl, r_al0 dX7_countRowsTo_64, r_getf dX7_countRowsTo_65 F7_22, r_il2 dX7_countRowsTo_68, r_iald dX7_countRowsTo_69, r_iret dX7_countRowsTo_70 (Nat.zero_le _) (Nat.zero_le _), List.cons_append, List.nil_append, Nat.reduceAdd, Option.toList, aI_ok, cat_f, cat_i, cat_n, cat_r, eq_self, g7_3, true_and, z0, hP2.r, rd_own hP2.r, hP2.r3, rd_own hP2.r3]
      simp (disch := omega) only [E2, nI_1, nI_add, nI_leI, nI_ltI, nI_eq, nI_clamp]
      exact ⟨fun _ => ⟨vp_in_nI (by omega) (by omega), by rw [g2]; exact hQ hm2 A2 T0 hP2 g1 ht0 ht1 g2 g3⟩, fun h => absurd (by omega) h⟩
    · intro k hk ih hm2 A2 hP2 hG2 g1 g2 g3
      simp only [r_il3 dX7_countRowsTo_38, r_il2 dX7_countRowsTo_39, r_ic_ge (tgt := 64) dX7_countRowsTo_40 rfl, r_al0 dX7_countRowsTo_43, r_getf dX7_countRowsTo_44 F7_22, r_il3 dX7_countRowsTo_47, r_iald dX7_countRowsTo_48, r_if_eq (tgt := 58) dX7_countRowsTo_49 rfl, r_al0 dX7_countRowsTo_52, r_al1 dX7_countRowsTo_53, r_il3 dX7_countRowsTo_54, r_ii3 dX7_countRowsTo_58 kn1, r_gotoB (tgt := 38) dX7_countRowsTo_61 rfl, r_al0 dX7_countRowsTo_64, r_getf dX7_countRowsTo_65 F7_22, r_il2 dX7_countRowsTo_68, r_iald dX7_countRowsTo_69, r_iret dX7_countRowsTo_70 (Nat.zero_le _) (Nat.zero_le _), List.cons_append, List.nil_append, Nat.reduceAdd, Option.toList, aI_ok, cat_f, cat_i, cat_n, cat_r, eq_self, g7_3, true_and, z0, hP2.r, rd_own hP2.r, hP2.r3, rd_own hP2.r3]
      simp (disch := omega) only [E2, nI_1, nI_add, nI_leI, nI_ltI, nI_eq, nI_clamp]
      refine ⟨fun h => absurd h (by omega), fun _ => ⟨vp_in_nI (by omega) (by omega), fun hz => ?_, fun hz => ?_⟩⟩
      · exact ih hm2 A2 hP2 hG2 g1 (by rw [g2]; rw [g2] at hz; exact (if_pos hz).symm) g3
      · skip
        refine r_iv3 dX7_countRowsTo_55 M7_45 Y88 O88 (Nat.le_of_ble_eq_true rfl) (rcv_own hP2.r) (Nat.le_refl _) (Nat.le_refl _) ?_
        refine c_addOneStroke hP2 hG2 hpg hn hn12 (by omega) (fun hm3 A3 hP3 k1 k2 k3 => ?_)
        simp only [r_ii3 dX7_countRowsTo_58 kn1, r_gotoB (tgt := 38) dX7_countRowsTo_61 rfl, List.cons_append, List.nil_append, Nat.reduceAdd, Option.toList, cat_f, cat_i, cat_n, cat_r, eq_self, true_and, z0]
        simp (disch := omega) only [E2, nI_1, nI_add, nI_leI, nI_ltI, nI_eq, nI_clamp]
        refine ih hm3 A3 hP3 (hG2.s k3 (by omega)) (fun s a => (k1 s a).trans (g1 s a)) ?_ (g3.trans k3)
        rw [k2, g2]
        rw [g2] at hz
        exact (if_neg hz).symm
  · intro k hk ih hm' A' hP' hG' h1 h2 h3
    simp (disch := first | omega | (simp only [List.length_cons, List.length_nil]; omega)) only [r_il3 dX7_countRowsTo_11, r_il2 dX7_countRowsTo_12, r_ic_gt (tgt := 29) dX7_countRowsTo_13 rfl, r_al0 dX7_countRowsTo_16, r_getf dX7_countRowsTo_17 F7_22, r_il3 dX7_countRowsTo_20, r_iconst dX7_countRowsTo_21 ki0, r_iast dX7_countRowsTo_22, r_ii3 dX7_countRowsTo_23 kn1, r_gotoB (tgt := 11) dX7_countRowsTo_26 rfl, r_al0 dX7_countRowsTo_29, r_getf dX7_countRowsTo_30 F7_22, r_iconst dX7_countRowsTo_33 ki0, r_iconst dX7_countRowsTo_34 ki1, r_iast dX7_countRowsTo_35, r_iconst dX7_countRowsTo_36 ki0, r_is3 dX7_countRowsTo_37, List.cons_append, List.nil_append, Nat.reduceAdd, Option.toList, cat_f, cat_i, cat_n, cat_r, eq_self, g7_3, pk_un, pk_us, rd_up_eq, rd_up_ne, sI_ok, true_and, up_eq, up_ne, up_up, z0, hP'.r, rd_own hP'.r, hP'.r3, rd_own hP'.r3]
    simp (disch := omega) only [E2, nI_1, nI_add, nI_leI, nI_ltI, nI_eq, nI_clamp]
    refine ⟨fun h => absurd h (by omega), fun _ => ⟨vp_in_nI (by omega) (by omega), ?_⟩⟩
    refine ih _ _ (hP'.w3 _) (hG'.k (by omega)) (fun s a => by rw [vu_ne a]; exact h1 s a) (fun s a b => ?_) (h3.up (by omega))
    rw [vu_eq]
    unfold upd
    split
    · rfl
    · exact h2 s a (by omega)
theorem c_taRefresh (hP : TA hm p u A R) (hG : PG hm g pu pA) (hpg : p + 5 ≤ g ∨ g + 10 ≤ p) (hn : pu 2 = nI n) (hn12 : n ≤ 12)
    (h0 : u 0 = 0 → Q none hm hs) (hQ : ¬ u 0 = 0 → ∀ hm' A' T0, TA hm' p (upd (upd u 2 (pal (pA 12) n (2 ^ n - 1) T0 (2 ^ n - 1))) 0 0) A' R → (∀ s, s ≠ 3 → A' s = A s) → T0 0 = 1 → (∀ s, 1 ≤ s → s < 2 ^ n → T0 s = 0) → A' 3 = pal (pA 12) n (2 ^ n - 1) T0 → sm p (p + 5) hm hm' → Q none hm' hs) : CC X EV (d + 3) 85 [.ref p, .ref g] hm hs Q := by
  refine c_of (ls2 := [.ref p, .ref g]) Y85 (Nat.le_of_ble_eq_true rfl) rfl I85 ?_
  simp only [r_al0 dX7_refresh_0, r_getf dX7_refresh_1 F7_9, r_if_eq (tgt := 21) dX7_refresh_4 rfl, r_al0 dX7_refresh_7, r_al0 dX7_refresh_8, r_al1 dX7_refresh_9, r_vret dX7_refresh_21 (Nat.zero_le _) (Nat.zero_le _), List.cons_append, List.nil_append, Nat.reduceAdd, Option.toList, g7_0, z0, hP.r, rd_own hP.r, hP.r, rd_own hP.r]
  refine ⟨fun h => h0 h, fun h => ?_⟩
  refine r_iv2 dX7_refresh_10 M7_36 Y87 O87 (Nat.le_of_ble_eq_true rfl) (rcv_own hP.r) (Nat.le_refl _) (Nat.le_refl _) ?_
  refine c_countRowsTo hP hG hpg hn hn12 (fun hm' A' T0 hP' h1 h2 h3 h4 h5 => ?_)
  simp (disch := first | omega | (simp only [List.length_cons, List.length_nil]; omega)) only [r_putf dX7_refresh_13 F7_18, r_al0 dX7_refresh_16, r_iconst dX7_refresh_17 ki0, r_putf dX7_refresh_18 F7_9, r_vret dX7_refresh_21 (Nat.zero_le _) (Nat.zero_le _), List.cons_append, List.nil_append, Nat.reduceAdd, Option.toList, fit_i, fit_z0, fit_z1, ft7_0, ft7_2, p7_0, p7_2, pk_un, pk_us, rd_up_eq, rd_up_ne, true_and, up_eq, up_ne, up_up, z0, hP'.r, rd_own hP'.r, hP'.r, rd_own hP'.r]
  exact hQ h _ A' T0 (hP'.o _) h1 h2 h3 h4 (h5.up (by omega))
theorem c_countOnceFor (hP : TA hm p u A R) (hG : PG hm g pu pA) (hpg : p + 5 ≤ g ∨ g + 10 ≤ p) (hn : pu 2 = nI n) (hn12 : n ≤ 12)
    (hQ : ∀ hm' A' T0, TA hm' p (upd u 0 1) A' R → (∀ s, s ≠ 3 → A' s = A s) → T0 0 = 1 → (∀ s, 1 ≤ s → s < 2 ^ n → T0 s = 0) → sm p (p + 5) hm hm' → Q (some (.int (pal (pA 12) n (2 ^ n - 1) T0 (2 ^ n - 1)))) hm' hs) : CC X EV (d + 3) 86 [.ref p, .ref g] hm hs Q := by
  refine c_of (ls2 := [.ref p, .ref g]) Y86 (Nat.le_of_ble_eq_true rfl) rfl I86 ?_
  simp (disch := first | omega | (simp only [List.length_cons, List.length_nil]; omega)) only [r_al0 dX7_countOnceFor_0, r_iconst dX7_countOnceFor_1 ki1, r_putf dX7_countOnceFor_2 F7_9, r_al0 dX7_countOnceFor_5, r_al1 dX7_countOnceFor_6, List.cons_append, List.nil_append, Nat.reduceAdd, Option.toList, fit_z0, fit_z1, ft7_0, p7_0, pk_un, pk_us, rd_up_eq, rd_up_ne, true_and, up_eq, up_ne, up_up, z0, hP.r, rd_own hP.r, hP.r, rd_own hP.r]
  have hP1 := hP.o (upd u 0 1)
  refine r_iv2 dX7_countOnceFor_7 M7_36 Y87 O87 (Nat.le_of_ble_eq_true rfl) (rcv_own hP1.r) (Nat.le_refl _) (Nat.le_refl _) ?_
  refine c_countRowsTo hP1 (hG.k (by omega)) hpg hn hn12 (fun hm' A' T0 hP' h1 h2 h3 h4 h5 => ?_)
  simp only [r_iret dX7_countOnceFor_10 (Nat.zero_le _) (Nat.zero_le _), List.cons_append, List.nil_append, Nat.reduceAdd, Option.toList, z0]
  exact hQ _ A' T0 hP' h1 h2 h3 ((sm.rf.up (by omega)).trans h5)
theorem c_addEarlier {set nx : Nat} {th : Int32} (hP : TA hm p u A R) (hset : set < 4096) (hnx : nx < 12)
    (hQ : ∀ hm' A', TA hm' p u A' R → (∀ s, s ≠ 5 → A' s = A s) → A' 5 = adE set nx th 12 (A 5) → sm p (p + 5) hm hm' → Q none hm' hs) : CC X EV (d + 1) 91 [.ref p, .int (nI set), .int (nI nx), .int th] hm hs Q := by
  refine c_of (ls2 := [.ref p, .int (nI set), .int (nI nx), .int th, .null]) Y91 (Nat.le_of_ble_eq_true rfl) rfl I91 ?_
  simp only [r_iconst dX7_addEarlier_0 ki0, r_is4 dX7_addEarlier_1, List.cons_append, List.nil_append, Nat.reduceAdd, Option.toList, cat_f, cat_i, cat_n, cat_r, eq_self, true_and, z0]
  suffices H : ∀ k, k ≤ 12 → ∀ hm' A', TA hm' p u A' R → (∀ s, s ≠ 5 → A' s = A s) → A' 5 = adE set nx th k (A 5) → sm p (p + 5) hm hm' → E1 X EV d 7 0 0 none false cX7_addEarlier Q 3 [.ref p, .int (nI set), .int (nI nx), .int th, .int (nI k)] [] 0 0 hm' hs from
    H 0 (by omega) hm A hP (fun _ _ => rfl) rfl sm.rf
  refine up_loop 12 _ ?_ ?_
  · intro hm' A' hP' h1 h2 h3
    simp (disch := first | omega | (simp only [List.length_cons, List.length_nil]; omega)) only [r_il4 dX7_addEarlier_3, r_bipush dX7_addEarlier_5 kb12, r_ic_ge (tgt := 41) dX7_addEarlier_7 rfl, r_il1 dX7_addEarlier_10, r_il4 dX7_addEarlier_11, r_ishr dX7_addEarlier_13, r_iconst dX7_addEarlier_14 ki1, r_iand dX7_addEarlier_15, r_if_eq (tgt := 35) dX7_addEarlier_16 rfl, r_al0 dX7_addEarlier_19, r_getf dX7_addEarlier_20 F7_29, r_il4 dX7_addEarlier_23, r_bipush dX7_addEarlier_25 kb12, r_imul dX7_addEarlier_27, r_il2 dX7_addEarlier_28, r_iadd dX7_addEarlier_29, r_dup2_ir dX7_addEarlier_30, r_dup2_l dX7_addEarlier_30, r_iald dX7_addEarlier_31, r_il3 dX7_addEarlier_32, r_iadd dX7_addEarlier_33, r_iast dX7_addEarlier_34, r_ii4 dX7_addEarlier_35 kn1, r_gotoB (tgt := 3) dX7_addEarlier_38 rfl, r_vret dX7_addEarlier_41 (Nat.zero_le _) (Nat.zero_le _), List.cons_append, List.nil_append, Nat.reduceAdd, Option.toList, aI_ok, cat_f, cat_i, cat_n, cat_r, eq_self, g7_5, pk_un, pk_us, rd_up_eq, rd_up_ne, sI_ok, true_and, up_eq, up_ne, up_up, z0, show (12 : Int32) = nI 12 from rfl]
    exact ⟨fun _ => hQ hm' A' hP' h1 h2 h3, fun h => absurd (Int32.le_refl _) h⟩
  · intro k hk ih hm' A' hP' h1 h2 h3
    simp (disch := first | omega | (simp only [List.length_cons, List.length_nil]; omega)) only [r_il4 dX7_addEarlier_3, r_bipush dX7_addEarlier_5 kb12, r_ic_ge (tgt := 41) dX7_addEarlier_7 rfl, r_il1 dX7_addEarlier_10, r_il4 dX7_addEarlier_11, r_ishr dX7_addEarlier_13, r_iconst dX7_addEarlier_14 ki1, r_iand dX7_addEarlier_15, r_if_eq (tgt := 35) dX7_addEarlier_16 rfl, r_al0 dX7_addEarlier_19, r_getf dX7_addEarlier_20 F7_29, r_il4 dX7_addEarlier_23, r_bipush dX7_addEarlier_25 kb12, r_imul dX7_addEarlier_27, r_il2 dX7_addEarlier_28, r_iadd dX7_addEarlier_29, r_dup2_ir dX7_addEarlier_30, r_dup2_l dX7_addEarlier_30, r_iald dX7_addEarlier_31, r_il3 dX7_addEarlier_32, r_iadd dX7_addEarlier_33, r_iast dX7_addEarlier_34, r_ii4 dX7_addEarlier_35 kn1, r_gotoB (tgt := 3) dX7_addEarlier_38 rfl, r_vret dX7_addEarlier_41 (Nat.zero_le _) (Nat.zero_le _), List.cons_append, List.nil_append, Nat.reduceAdd, Option.toList, aI_ok, cat_f, cat_i, cat_n, cat_r, eq_self, g7_5, pk_un, pk_us, rd_up_eq, rd_up_ne, sI_ok, true_and, up_eq, up_ne, up_up, z0, hP'.r, rd_own hP'.r, hP'.r5, rd_own hP'.r5, show (12 : Int32) = nI 12 from rfl, tstN (show k < 32 by omega), pk_mul, nI_add]
    simp (disch := omega) only [E2, nI_1, nI_add, nI_leI, nI_ltI, nI_eq, nI_clamp]
    have hi := vp_in_nI (show k * 12 + nx < 144 by omega) (by omega)
    refine ⟨fun h => absurd h (by omega), fun _ => ⟨fun hb => ?_, fun hb => ⟨hi, hi, ?_⟩⟩⟩
    · exact ih hm' A' hP' h1 (by rw [h2]; exact (if_neg (by rw [hb]; decide)).symm) h3
    · refine ih _ _ (hP'.w5 _) (fun s a => by rw [vu_ne a]; exact h1 s a) ?_ (h3.up (by omega))
      rw [vu_eq, h2]
      exact (if_pos (by simpa using hb)).symm
theorem c_countFrom {set : Nat} (hP : TA hm p u A R) (hG : PG hm g pu pA) (hpg : p + 5 ≤ g ∨ g + 10 ≤ p) (hn : pu 2 = nI n) (hn12 : n ≤ 12) (hset : set < 2 ^ n)
    (hQ : ∀ hm' A' R', TA hm' p u A' R' → (∀ s, s ≠ 4 → s ≠ 5 → A' s = A s) → (A' 4, A' 5, R') = cfr (pA 12) (A 3) set n (A 4, A 5, R) → sm p (p + 5) hm hm' → Q none hm' hs) : CC X EV (d + 2) 90 [.ref p, .ref g, .int (nI set)] hm hs Q := by
  have hpw := pw12 hn12
  refine c_of (ls2 := [.ref p, .ref g, .int (nI set), .null, .null, .null]) Y90 (Nat.le_of_ble_eq_true rfl) rfl I90 ?_
  simp only [r_iconst dX7_countFrom_0 ki0, r_is3 dX7_countFrom_1, List.cons_append, List.nil_append, Nat.reduceAdd, Option.toList, cat_f, cat_i, cat_n, cat_r, eq_self, true_and, z0]
  suffices H : ∀ k, k ≤ n → ∀ w1 w2 hm' A' R', TA hm' p u A' R' → PG hm' g pu pA → (∀ s, s ≠ 4 → s ≠ 5 → A' s = A s) → (A' 4, A' 5, R') = cfr (pA 12) (A 3) set k (A 4, A 5, R) → sm p (p + 5) hm hm' → E1 X EV (d + 1) 7 0 0 none false cX7_countFrom Q 2 [.ref p, .ref g, .int (nI set), .int (nI k), w1, w2] [] 0 0 hm' hs from
    H 0 (Nat.zero_le n) _ _ hm A R hP hG (fun _ _ _ => rfl) rfl sm.rf
  refine up_loop n _ ?_ ?_
  · intro w1 w2 hm' A' R' hP' hG' h1 h2 h3
    simp (disch := first | omega | (simp only [List.length_cons, List.length_nil]; omega)) only [r_il3 dX7_countFrom_2, r_al1 dX7_countFrom_3, r_getf dX7_countFrom_4 F7_40, r_ic_ge (tgt := 97) dX7_countFrom_7 rfl, r_il2 dX7_countFrom_10, r_il3 dX7_countFrom_11, r_ishr dX7_countFrom_12, r_iconst dX7_countFrom_13 ki1, r_iand dX7_countFrom_14, r_if_ne (tgt := 91) dX7_countFrom_15 rfl, r_al1 dX7_countFrom_18, r_getf dX7_countFrom_19 F7_49, r_il3 dX7_countFrom_22, r_iald dX7_countFrom_23, r_il2 dX7_countFrom_24, r_iconst dX7_countFrom_25 kim1, r_ixor dX7_countFrom_26, r_iand dX7_countFrom_27, r_if_ne (tgt := 91) dX7_countFrom_28 rfl, r_al0 dX7_countFrom_31, r_getf dX7_countFrom_32 F7_26, r_il2 dX7_countFrom_35, r_iconst dX7_countFrom_36 ki1, r_il3 dX7_countFrom_37, r_ishl dX7_countFrom_38, r_ior dX7_countFrom_39, r_iald dX7_countFrom_40, r_is4 dX7_countFrom_41, r_al0 dX7_countFrom_43, r_getf dX7_countFrom_44 F7_26, r_il2 dX7_countFrom_47, r_dup2_ir dX7_countFrom_48, r_dup2_l dX7_countFrom_48, r_iald dX7_countFrom_49, r_il4 dX7_countFrom_50, r_iadd dX7_countFrom_52, r_iast dX7_countFrom_53, r_al0 dX7_countFrom_54, r_getf dX7_countFrom_55 F7_22, r_il2 dX7_countFrom_58, r_iald dX7_countFrom_59, r_il4 dX7_countFrom_60, r_imul dX7_countFrom_62, r_is5 dX7_countFrom_63, r_al0 dX7_countFrom_65, r_getf dX7_countFrom_66 F7_32, r_il3 dX7_countFrom_69, r_dup2_ir dX7_countFrom_70, r_dup2_l dX7_countFrom_70, r_lald dX7_countFrom_71, r_il2 dX7_countFrom_72, r_ii3 dX7_countFrom_91 kn1, r_gotoB (tgt := 2) dX7_countFrom_94 rfl, r_vret dX7_countFrom_97 (Nat.zero_le _) (Nat.zero_le _), List.cons_append, List.nil_append, Nat.reduceAdd, Option.toList, aI_ok, aJ_ok, cat_f, cat_i, cat_n, cat_r, eq_self, g1_12, g1_2, g7_3, g7_4, g7_6, pk_un, pk_us, rd_up_eq, rd_up_ne, sI_ok, true_and, up_eq, up_ne, up_up, z0, hP'.r, rd_own hP'.r, hP'.r, rd_own hP'.r, hG'.r, rd_own hG'.r, hG'.r, rd_own hG'.r, hn]
    exact ⟨fun _ => hQ hm' A' R' hP' h1 h2 h3, fun h => absurd (Int32.le_refl _) h⟩
  · intro k hk ih w1 w2 hm' A' R' hP' hG' h1 h2 h3
    have hor := or_lt hset hk
    have e1 : nI set ||| (1 : Int32) <<< (nI k &&& 31) = nI (set ||| 2 ^ k) := orsb (by omega)
    simp (disch := first | omega | (simp only [List.length_cons, List.length_nil]; omega)) only [r_il3 dX7_countFrom_2, r_al1 dX7_countFrom_3, r_getf dX7_countFrom_4 F7_40, r_ic_ge (tgt := 97) dX7_countFrom_7 rfl, r_il2 dX7_countFrom_10, r_il3 dX7_countFrom_11, r_ishr dX7_countFrom_12, r_iconst dX7_countFrom_13 ki1, r_iand dX7_countFrom_14, r_if_ne (tgt := 91) dX7_countFrom_15 rfl, r_al1 dX7_countFrom_18, r_getf dX7_countFrom_19 F7_49, r_il3 dX7_countFrom_22, r_iald dX7_countFrom_23, r_il2 dX7_countFrom_24, r_iconst dX7_countFrom_25 kim1, r_ixor dX7_countFrom_26, r_iand dX7_countFrom_27, r_if_ne (tgt := 91) dX7_countFrom_28 rfl, r_al0 dX7_countFrom_31, r_getf dX7_countFrom_32 F7_26, r_il2 dX7_countFrom_35, r_iconst dX7_countFrom_36 ki1, r_il3 dX7_countFrom_37, r_ishl dX7_countFrom_38, r_ior dX7_countFrom_39, r_iald dX7_countFrom_40, r_is4 dX7_countFrom_41, r_al0 dX7_countFrom_43, r_getf dX7_countFrom_44 F7_26, r_il2 dX7_countFrom_47, r_dup2_ir dX7_countFrom_48, r_dup2_l dX7_countFrom_48, r_iald dX7_countFrom_49, r_il4 dX7_countFrom_50, r_iadd dX7_countFrom_52, r_iast dX7_countFrom_53, r_al0 dX7_countFrom_54, r_getf dX7_countFrom_55 F7_22, r_il2 dX7_countFrom_58, r_iald dX7_countFrom_59, r_il4 dX7_countFrom_60, r_imul dX7_countFrom_62, r_is5 dX7_countFrom_63, r_al0 dX7_countFrom_65, r_getf dX7_countFrom_66 F7_32, r_il3 dX7_countFrom_69, r_dup2_ir dX7_countFrom_70, r_dup2_l dX7_countFrom_70, r_lald dX7_countFrom_71, r_il2 dX7_countFrom_72, r_ii3 dX7_countFrom_91 kn1, r_gotoB (tgt := 2) dX7_countFrom_94 rfl, r_vret dX7_countFrom_97 (Nat.zero_le _) (Nat.zero_le _), List.cons_append, List.nil_append, Nat.reduceAdd, Option.toList, aI_ok, aJ_ok, cat_f, cat_i, cat_n, cat_r, eq_self, g1_12, g1_2, g7_3, g7_4, g7_6, pk_un, pk_us, rd_up_eq, rd_up_ne, sI_ok, true_and, up_eq, up_ne, up_up, z0, hP'.r, rd_own hP'.r, hP'.r3, rd_own hP'.r3, hP'.r4, rd_own hP'.r4, hP'.r6, rd_own hP'.r6, hG'.r, rd_own hG'.r, hG'.r12, rd_own hG'.r12, hn, tstN (show k < 32 by omega), e1]
    simp (disch := omega) only [E2, nI_1, nI_add, nI_leI, nI_ltI, nI_eq, nI_clamp]
    have hik := vp_in_nI (show k < 12 by omega) (by omega)
    have his := vp_in_nI (show set < 4096 by omega) (by omega)
    have hio := vp_in_nI (show set ||| 2 ^ k < 4096 by omega) (by omega)
    refine ⟨fun h => absurd h (by omega), fun _ => ⟨fun hb => ?_, fun hb => ⟨hik, fun hc => ?_, fun hc => ⟨hio, his, his, his, hik, ?_⟩⟩⟩⟩
    · exact ih _ _ hm' A' R' hP' hG' h1 (by rw [h2]; exact (if_neg (fun q => hb q.1)).symm) h3
    · exact ih _ _ hm' A' R' hP' hG' h1 (by rw [h2]; exact (if_neg (fun q => hc q.2)).symm) h3
    · skip
      refine r_ist1 dX7_countFrom_73 M7_59 Y263 (Nat.le_of_ble_eq_true rfl) (Nat.le_refl _) (Nat.le_refl _) ?_
      refine c_bitCount ?_
      have hP2 := hP'.w4 (upd (A' 4) set (A' 4 set + A' 4 (set ||| 2 ^ k)))
      simp (disch := first | omega | (simp only [List.length_cons, List.length_nil]; omega)) only [r_i2l dX7_countFrom_76, r_il5 dX7_countFrom_77, r_i2l dX7_countFrom_79, r_lmul dX7_countFrom_80, r_ladd dX7_countFrom_81, r_last dX7_countFrom_82, r_al0 dX7_countFrom_83, r_il2 dX7_countFrom_84, r_il3 dX7_countFrom_85, r_il5 dX7_countFrom_86, List.cons_append, List.nil_append, Nat.reduceAdd, Option.toList, pk_un, pk_us, rd_up_eq, rd_up_ne, sJ_ok, up_eq, up_ne, up_up, z0, hP'.r, rd_own hP'.r, hP'.r6, rd_own hP'.r6, nI_clamp (show k < 2 ^ 31 by omega)]
      refine ⟨hik, ?_⟩
      have hP3 := hP2.w6 (vp_updL R' k (R' k + (pcnt (nI set)).toInt64 * (A' 3 set * A' 4 (set ||| 2 ^ k)).toInt64))
      refine r_iv4 dX7_countFrom_88 M7_65 Y91 O91 (Nat.le_of_ble_eq_true rfl) (rcv_own hP3.r) (Nat.le_refl _) (Nat.le_refl _) ?_
      refine c_addEarlier hP3 (by omega) (by omega) (fun hm4 A4 hP4 k1 k2 k3 => ?_)
      simp only [r_ii3 dX7_countFrom_91 kn1, r_gotoB (tgt := 2) dX7_countFrom_94 rfl, List.cons_append, List.nil_append, Nat.reduceAdd, Option.toList, cat_f, cat_i, cat_n, cat_r, eq_self, true_and, z0]
      simp (disch := omega) only [E2, nI_1, nI_add, nI_leI, nI_ltI, nI_eq, nI_clamp]
      refine ih _ _ hm4 A4 _ hP4 ((hG'.k (by omega)).k (by omega) |>.s k3 (by omega)) (fun s a b => by rw [k1 s b, vu_ne a]; exact h1 s a b) ?_ (((h3.up (by omega)).up (by omega)).trans k3)
      have e3 : A' 3 = A 3 := h1 3 (by decide) (by decide)
      have q1 : A' 4 = (cfr (pA 12) (A 3) set k (A 4, A 5, R)).1 := congrArg Prod.fst h2
      have q2 : A' 5 = (cfr (pA 12) (A 3) set k (A 4, A 5, R)).2.1 := congrArg (fun q => q.2.1) h2
      have q3 : R' = (cfr (pA 12) (A 3) set k (A 4, A 5, R)).2.2 := congrArg (fun q => q.2.2) h2
      rw [k1 4 (by decide), k2, vu_eq, vu_ne (by decide), e3, q1, q2, q3]
      exact (if_pos ⟨Classical.not_not.mp hb, Classical.not_not.mp hc⟩).symm
theorem c_refreshDetail {all : Int32} (hP : TA hm p u A R) (hG : PG hm g pu pA) (hpg : p + 5 ≤ g ∨ g + 10 ≤ p) (hn : pu 2 = nI n) (hn12 : n ≤ 12)
    (hQ0 : ∀ hm' u' A', TA hm' p u' A' R → (∀ s, s ≠ 3 → A' s = A s) → u' 1 = u 1 → u' 0 = 0 → (u 0 = 0 → u' 2 = u 2 ∧ A' 3 = A 3) → (¬ u 0 = 0 → ∃ T0 : Nat → Int32, T0 0 = 1 ∧ (∀ s, 1 ≤ s → s < 2 ^ n → T0 s = 0) ∧ A' 3 = pal (pA 12) n (2 ^ n - 1) T0 ∧ u' 2 = A' 3 (2 ^ n - 1)) → sm p (p + 5) hm hm' → u 1 = 0 → Q none hm' hs)
    (hQ1 : ∀ hm' u' A' R', TA hm' p u' A' R' → u' 1 = 0 → u' 0 = 0 → (u 0 = 0 → u' 2 = u 2 ∧ A' 3 = A 3) → (¬ u 0 = 0 → ∃ T0 : Nat → Int32, T0 0 = 1 ∧ (∀ s, 1 ≤ s → s < 2 ^ n → T0 s = 0) ∧ A' 3 = pal (pA 12) n (2 ^ n - 1) T0 ∧ u' 2 = A' 3 (2 ^ n - 1)) → (∃ F0 E0 R0, F0 (2 ^ n - 1) = 1 ∧ (∀ q, q < 144 → E0 q = 0) ∧ (∀ q, q < 12 → R0 q = 0) ∧ (A' 4, A' 5, R') = dfr (pA 12) (A' 3) n (2 ^ n - 1) (F0, E0, R0)) → sm p (p + 5) hm hm' → ¬ u 1 = 0 → Q none hm' hs) : CC X EV (d + 4) 89 [.ref p, .ref g] hm hs Q := by
  have hpw := pw12 hn12
  refine c_of (ls2 := [.ref p, .ref g, .null, .null]) Y89 (Nat.le_of_ble_eq_true rfl) rfl I89 ?_
  simp only [r_al0 dX7_refreshDetail_0, r_al1 dX7_refreshDetail_1, List.cons_append, List.nil_append, Nat.reduceAdd, Option.toList, z0]
  refine r_iv2 dX7_refreshDetail_2 M7_52 Y85 O85 (Nat.le_of_ble_eq_true rfl) (rcv_own hP.r) (Nat.le_refl _) (Nat.le_refl _) ?_
  suffices K : ∀ hm1 u1 A1, TA hm1 p u1 A1 R → PG hm1 g pu pA → (∀ s, s ≠ 3 → A1 s = A s) → u1 1 = u 1 → u1 0 = 0 → (u 0 = 0 → u1 2 = u 2 ∧ A1 3 = A 3) → (¬ u 0 = 0 → ∃ T0 : Nat → Int32, T0 0 = 1 ∧ (∀ s, 1 ≤ s → s < 2 ^ n → T0 s = 0) ∧ A1 3 = pal (pA 12) n (2 ^ n - 1) T0 ∧ u1 2 = A1 3 (2 ^ n - 1)) → sm p (p + 5) hm hm1 → E1 X EV (d + 3) 7 0 0 none false cX7_refreshDetail Q 5 [.ref p, .ref g, .null, .null] [] 0 0 hm1 hs by
    refine c_taRefresh hP hG hpg hn hn12 (fun h => ?_) (fun h hm' A' T0 hP' h1 h2 h3 h4 h5 => ?_)
    · exact K hm u A hP hG (fun _ _ => rfl) rfl h (fun _ => ⟨rfl, rfl⟩) (fun q => absurd h q) sm.rf
    · refine K hm' _ A' hP' (hG.s h5 (by omega)) h1 ?_ ?_ (fun q => absurd q h) (fun _ => ⟨T0, h2, h3, h4, ?_⟩) h5
      · rw [pk_un (by decide), pk_un (by decide)]
      · rw [pk_us]
      · rw [pk_un (by decide), pk_us, h4]
  intro hm1 u1 A1 hP1 hG1 a1 a2 a3 a4 a5 a6
  simp (disch := first | omega | (simp only [List.length_cons, List.length_nil]; omega)) only [r_al0 dX7_refreshDetail_5, r_getf dX7_refreshDetail_6 F7_15, r_if_ne (tgt := 13) dX7_refreshDetail_9 rfl, r_vret dX7_refreshDetail_12 (Nat.zero_le _) (Nat.zero_le _), r_al0 dX7_refreshDetail_13, r_iconst dX7_refreshDetail_14 ki0, r_putf dX7_refreshDetail_15 F7_15, r_iconst dX7_refreshDetail_18 ki0, r_is2 dX7_refreshDetail_19, List.cons_append, List.nil_append, Nat.reduceAdd, Option.toList, cat_f, cat_i, cat_n, cat_r, eq_self, fit_z0, fit_z1, ft7_1, g7_1, p7_1, pk_un, pk_us, rd_up_eq, rd_up_ne, true_and, up_eq, up_ne, up_up, z0, hP1.r, rd_own hP1.r, hP1.r, rd_own hP1.r]
  refine ⟨fun h => ?_, fun h => hQ0 hm1 u1 A1 hP1 a1 a2 a3 a4 a5 a6 (by rw [← a2]; exact Classical.not_not.mp h)⟩
  have hu1 : ¬ u 1 = 0 := by rw [← a2]; exact h
  have hP2 := hP1.o (upd u1 1 0)
  have hG2 : PG (im_up hm1 p (.inr (7, fs_TA p (upd u1 1 0)))) g pu pA := hG1.k (by omega)
  have b1 : (upd u1 1 0) 1 = 0 := pk_us
  have b2 : (upd u1 1 0) 0 = 0 := by rw [pk_un (by decide)]; exact a3
  have b3 : (upd u1 1 0) 2 = u1 2 := by rw [pk_un (by decide)]
  have b4 := a6.up (a := p) (c := .inr (7, fs_TA p (upd u1 1 0))) (by omega)
  generalize upd u1 1 0 = u2 at hP2 hG2 b1 b2 b3 b4 ⊢
  generalize im_up hm1 p (.inr (7, fs_TA p u2)) = hm2 at hP2 hG2 b4 ⊢
  suffices H : ∀ k, k ≤ 144 → ∀ hm' A', TA hm' p u2 A' R → PG hm' g pu pA → A' 3 = A1 3 → (∀ q, q < k → A' 5 q = 0) → sm p (p + 5) hm hm' → E1 X EV (d + 3) 7 0 0 none false cX7_refreshDetail Q 20 [.ref p, .ref g, .int (nI k), .null] [] 0 0 hm' hs from
    H 0 (by omega) hm2 A1 hP2 hG2 rfl (fun q hq => absurd hq (Nat.not_lt_zero q)) b4
  refine up_loop 144 _ ?_ ?_
  · intro hm' A' hP' hG' h1 h2 h3
    simp (disch := first | omega | (simp only [List.length_cons, List.length_nil]; omega)) only [r_il2 dX7_refreshDetail_20, r_al0 dX7_refreshDetail_21, r_getf dX7_refreshDetail_22 F7_29, r_alen dX7_refreshDetail_25, r_ic_ge (tgt := 42) dX7_refreshDetail_26 rfl, r_al0 dX7_refreshDetail_29, r_getf dX7_refreshDetail_30 F7_29, r_il2 dX7_refreshDetail_33, r_iconst dX7_refreshDetail_34 ki0, r_iast dX7_refreshDetail_35, r_ii2 dX7_refreshDetail_36 kn1, r_gotoB (tgt := 20) dX7_refreshDetail_39 rfl, r_iconst dX7_refreshDetail_42 ki0, r_is2 dX7_refreshDetail_43, List.cons_append, List.nil_append, Nat.reduceAdd, Option.toList, aN_ok, cat_f, cat_i, cat_n, cat_r, eq_self, g7_5, pk_un, pk_us, rd_up_eq, rd_up_ne, sI_ok, true_and, up_eq, up_ne, up_up, z0, hP'.r, rd_own hP'.r, hP'.r5, rd_own hP'.r5]
    refine ⟨fun _ => ?_, fun h => absurd (Int32.le_refl _) h⟩
    suffices H : ∀ k, k ≤ 12 → ∀ hm3 R3, TA hm3 p u2 A' R3 → PG hm3 g pu pA → (∀ q, q < k → R3 q = 0) → sm p (p + 5) hm hm3 → E1 X EV (d + 3) 7 0 0 none false cX7_refreshDetail Q 44 [.ref p, .ref g, .int (nI k), .null] [] 0 0 hm3 hs from
      H 0 (by omega) hm' R hP' hG' (fun q hq => absurd hq (Nat.not_lt_zero q)) h3
    refine up_loop 12 _ ?_ ?_
    · intro hm3 R3 hP3 hG3 g1 g2
      simp (disch := first | omega | (simp only [List.length_cons, List.length_nil]; omega)) only [r_il2 dX7_refreshDetail_44, r_al0 dX7_refreshDetail_45, r_getf dX7_refreshDetail_46 F7_32, r_alen dX7_refreshDetail_49, r_ic_ge (tgt := 66) dX7_refreshDetail_50 rfl, r_al0 dX7_refreshDetail_53, r_getf dX7_refreshDetail_54 F7_32, r_il2 dX7_refreshDetail_57, r_lconst dX7_refreshDetail_58 kl0, r_last dX7_refreshDetail_59, r_ii2 dX7_refreshDetail_60 kn1, r_gotoB (tgt := 44) dX7_refreshDetail_63 rfl, r_iconst dX7_refreshDetail_66 ki1, r_al1 dX7_refreshDetail_67, r_getf dX7_refreshDetail_68 F7_40, r_ishl dX7_refreshDetail_71, r_iconst dX7_refreshDetail_72 ki1, r_isub dX7_refreshDetail_73, r_is2 dX7_refreshDetail_74, r_al0 dX7_refreshDetail_75, r_getf dX7_refreshDetail_76 F7_26, r_il2 dX7_refreshDetail_79, r_iconst dX7_refreshDetail_80 ki1, r_iast dX7_refreshDetail_81, r_il2 dX7_refreshDetail_82, r_iconst dX7_refreshDetail_83 ki1, r_isub dX7_refreshDetail_84, r_is3 dX7_refreshDetail_85, List.cons_append, List.nil_append, Nat.reduceAdd, Option.toList, aN_ok, cat_f, cat_i, cat_n, cat_r, eq_self, g1_2, g7_4, g7_6, pk_un, pk_us, rd_up_eq, rd_up_ne, sI_ok, sJ_ok, true_and, up_eq, up_ne, up_up, z0, hP3.r, rd_own hP3.r, hP3.r4, rd_own hP3.r4, hP3.r6, rd_own hP3.r6, hG3.r, rd_own hG3.r, hG3.r, rd_own hG3.r, hn, whole_eq hn12, nI_clamp (show 2 ^ n - 1 < 2 ^ 31 by omega)]
      refine ⟨fun _ => ⟨vp_in_nI (by omega) (by omega), ?_⟩, fun h => absurd (Int32.le_refl _) h⟩
      have hP4 := hP3.w4 (upd (A' 4) (2 ^ n - 1) 1)
      have hG4 : PG (im_up hm3 (p + 2) (ia 4096 (upd (A' 4) (2 ^ n - 1) 1))) g pu pA := hG3.k (by omega)
      have q0 := g2.up (a := p + 2) (c := ia 4096 (upd (A' 4) (2 ^ n - 1) 1)) (by omega)
      obtain ⟨A4, eA4⟩ : ∃ z, z = va_up A' 4 (upd (A' 4) (2 ^ n - 1) 1) := ⟨_, rfl⟩
      rw [← eA4] at hP4
      have q1 : A4 3 = A1 3 := by rw [eA4, vu_ne (by decide)]; exact h1
      have q2 : A4 5 = A' 5 := by rw [eA4, vu_ne (by decide)]
      have q3 : A4 4 (2 ^ n - 1) = 1 := by rw [eA4, vu_eq, pk_us]
      clear eA4
      generalize im_up hm3 (p + 2) (ia 4096 (upd (A' 4) (2 ^ n - 1) 1)) = hm4 at hP4 hG4 q0 ⊢
      suffices H : ∀ k, k ≤ 2 ^ n - 1 → ∀ hm5 A5 R5, TA hm5 p u2 A5 R5 → PG hm5 g pu pA → A5 3 = A1 3 → (A5 4, A5 5, R5) = dfr (pA 12) (A1 3) n k (A4 4, A4 5, R3) → sm p (p + 5) hm hm5 → E1 X EV (d + 3) 7 0 0 none false cX7_refreshDetail Q 86 [.ref p, .ref g, .int (nI (2 ^ n - 1)), .int (nI (2 ^ n - 1 - k) - 1)] [] 0 0 hm5 hs from
        H 0 (by omega) hm4 A4 R3 hP4 hG4 q1 rfl q0
      refine up_loop (2 ^ n - 1) _ ?_ ?_
      · intro hm5 A5 R5 hP5 hG5 k1 k2 k3
        simp (disch := first | omega | (simp only [List.length_cons, List.length_nil]; omega)) only [r_il3 dX7_refreshDetail_86, r_if_lt (tgt := 118) dX7_refreshDetail_87 rfl, r_al0 dX7_refreshDetail_90, r_getf dX7_refreshDetail_91 F7_26, r_il3 dX7_refreshDetail_94, r_iconst dX7_refreshDetail_95 ki0, r_iast dX7_refreshDetail_96, r_al0 dX7_refreshDetail_97, r_getf dX7_refreshDetail_98 F7_22, r_il3 dX7_refreshDetail_101, r_iald dX7_refreshDetail_102, r_if_eq (tgt := 112) dX7_refreshDetail_103 rfl, r_al0 dX7_refreshDetail_106, r_al1 dX7_refreshDetail_107, r_il3 dX7_refreshDetail_108, r_ii3 dX7_refreshDetail_112 knm1, r_gotoB (tgt := 86) dX7_refreshDetail_115 rfl, r_vret dX7_refreshDetail_118 (Nat.zero_le _) (Nat.zero_le _), List.cons_append, List.nil_append, Nat.reduceAdd, Option.toList, aI_ok, cat_f, cat_i, cat_n, cat_r, eq_self, g7_3, g7_4, pk_un, pk_us, rd_up_eq, rd_up_ne, sI_ok, true_and, up_eq, up_ne, up_up, z0, hP5.r, rd_own hP5.r, hP5.r, rd_own hP5.r]
        rw [show 2 ^ n - 1 - (2 ^ n - 1) = 0 by omega]
        refine ⟨fun _ => ?_, fun h => absurd (by decide) h⟩
        refine hQ1 hm5 u2 A5 R5 hP5 b1 b2 (fun q => ?_) (fun q => ?_) ⟨A4 4, A4 5, R3, q3, fun x hx => by rw [q2]; exact h2 x hx, g1, by rw [k1]; exact k2⟩ k3 hu1
        · rw [b3, k1]; exact a4 q
        · rw [b3, k1]; exact a5 q
      · intro k hk ih hm5 A5 R5 hP5 hG5 k1 k2 k3
        have e1 : nI (2 ^ n - 1 - k) - 1 = nI (2 ^ n - 2 - k) := by
          rw [show 2 ^ n - 1 - k = 2 ^ n - 2 - k + 1 by omega]; exact nI_pred _
        rw [e1]
        simp (disch := first | omega | (simp only [List.length_cons, List.length_nil]; omega)) only [r_il3 dX7_refreshDetail_86, r_if_lt (tgt := 118) dX7_refreshDetail_87 rfl, r_al0 dX7_refreshDetail_90, r_getf dX7_refreshDetail_91 F7_26, r_il3 dX7_refreshDetail_94, r_iconst dX7_refreshDetail_95 ki0, r_iast dX7_refreshDetail_96, r_al0 dX7_refreshDetail_97, r_getf dX7_refreshDetail_98 F7_22, r_il3 dX7_refreshDetail_101, r_iald dX7_refreshDetail_102, r_if_eq (tgt := 112) dX7_refreshDetail_103 rfl, r_al0 dX7_refreshDetail_106, r_al1 dX7_refreshDetail_107, r_il3 dX7_refreshDetail_108, r_ii3 dX7_refreshDetail_112 knm1, r_gotoB (tgt := 86) dX7_refreshDetail_115 rfl, r_vret dX7_refreshDetail_118 (Nat.zero_le _) (Nat.zero_le _), List.cons_append, List.nil_append, Nat.reduceAdd, Option.toList, aI_ok, cat_f, cat_i, cat_n, cat_r, eq_self, g7_3, g7_4, pk_un, pk_us, rd_up_eq, rd_up_ne, sI_ok, true_and, up_eq, up_ne, up_up, z0, hP5.r, rd_own hP5.r, hP5.r3, rd_own hP5.r3, hP5.r4, rd_own hP5.r4, nI_clamp (show 2 ^ n - 2 - k < 2 ^ 31 by omega)]
        have hi := vp_in_nI (show 2 ^ n - 2 - k < 4096 by omega) (by omega)
        have e2 : nI (2 ^ n - 2 - k) + (-1) = nI (2 ^ n - 1 - (k + 1)) - 1 := by
          rw [show 2 ^ n - 1 - (k + 1) = 2 ^ n - 2 - k by omega]; generalize nI (2 ^ n - 2 - k) = y; grind
        rw [k1]
        have r1 : A5 4 = (dfr (pA 12) (A1 3) n k (A4 4, A4 5, R3)).1 := congrArg Prod.fst k2
        have r2 : (A5 5, R5) = (dfr (pA 12) (A1 3) n k (A4 4, A4 5, R3)).2 := congrArg Prod.snd k2
        have hP6 := hP5.w4 (upd (A5 4) (2 ^ n - 2 - k) 0)
        have hG6 : PG (im_up hm5 (p + 2) (ia 4096 (upd (A5 4) (2 ^ n - 2 - k) 0))) g pu pA := hG5.k (by omega)
        refine ⟨fun h => absurd h (nI_pos (by omega)), fun _ => ⟨hi, hi, fun hz => ?_, fun hz => ?_⟩⟩
        · rw [e2]
          refine ih _ _ R5 hP6 hG6 (by rw [vu_ne (by decide)]; exact k1) ?_ (k3.up (by omega))
          rw [vu_eq, vu_ne (by decide), r2, r1]
          exact (if_pos hz).symm
        · skip
          refine r_iv3 dX7_refreshDetail_109 M7_56 Y90 O90 (Nat.le_of_ble_eq_true rfl) (rcv_own hP6.r) (Nat.le_refl _) (Nat.le_refl _) ?_
          refine c_countFrom hP6 hG6 hpg hn hn12 (by omega) (fun hm7 A7 R7 hP7 m1 m2 m3 => ?_)
          simp only [r_ii3 dX7_refreshDetail_112 knm1, r_gotoB (tgt := 86) dX7_refreshDetail_115 rfl, List.cons_append, List.nil_append, Nat.reduceAdd, Option.toList, cat_f, cat_i, cat_n, cat_r, eq_self, true_and, z0]
          simp (disch := omega) only [E2, nI_1, nI_add, nI_leI, nI_ltI, nI_eq, nI_clamp]
          rw [e2]
          refine ih hm7 A7 R7 hP7 (hG6.s m3 (by omega)) (by rw [m1 3 (by decide) (by decide), vu_ne (by decide)]; exact k1) ?_ ((k3.up (by omega)).trans m3)
          rw [m2, vu_eq, vu_ne (by decide), vu_ne (by decide), k1, r2, r1]
          exact (if_neg hz).symm
    · intro k hk ih hm3 R3 hP3 hG3 g1 g2
      simp (disch := first | omega | (simp only [List.length_cons, List.length_nil]; omega)) only [r_il2 dX7_refreshDetail_44, r_al0 dX7_refreshDetail_45, r_getf dX7_refreshDetail_46 F7_32, r_alen dX7_refreshDetail_49, r_ic_ge (tgt := 66) dX7_refreshDetail_50 rfl, r_al0 dX7_refreshDetail_53, r_getf dX7_refreshDetail_54 F7_32, r_il2 dX7_refreshDetail_57, r_lconst dX7_refreshDetail_58 kl0, r_last dX7_refreshDetail_59, r_ii2 dX7_refreshDetail_60 kn1, r_gotoB (tgt := 44) dX7_refreshDetail_63 rfl, r_iconst dX7_refreshDetail_66 ki1, r_al1 dX7_refreshDetail_67, r_getf dX7_refreshDetail_68 F7_40, r_ishl dX7_refreshDetail_71, r_iconst dX7_refreshDetail_72 ki1, r_isub dX7_refreshDetail_73, r_is2 dX7_refreshDetail_74, r_al0 dX7_refreshDetail_75, r_getf dX7_refreshDetail_76 F7_26, r_il2 dX7_refreshDetail_79, r_iconst dX7_refreshDetail_80 ki1, r_iast dX7_refreshDetail_81, r_il2 dX7_refreshDetail_82, r_iconst dX7_refreshDetail_83 ki1, r_isub dX7_refreshDetail_84, r_is3 dX7_refreshDetail_85, List.cons_append, List.nil_append, Nat.reduceAdd, Option.toList, aN_ok, cat_f, cat_i, cat_n, cat_r, eq_self, g1_2, g7_4, g7_6, pk_un, pk_us, rd_up_eq, rd_up_ne, sI_ok, sJ_ok, true_and, up_eq, up_ne, up_up, z0, hP3.r, rd_own hP3.r, hP3.r6, rd_own hP3.r6]
      simp (disch := omega) only [E2, nI_1, nI_add, nI_leI, nI_ltI, nI_eq, nI_clamp]
      refine ⟨fun h => absurd h (by omega), fun _ => ⟨vp_in_nI (by omega) (by omega), ?_⟩⟩
      refine ih _ _ (hP3.w6 _) (hG3.k (by omega)) (fun q hq => ?_) (g2.up (by omega))
      unfold vp_updL
      grind
  · intro k hk ih hm' A' hP' hG' h1 h2 h3
    simp (disch := first | omega | (simp only [List.length_cons, List.length_nil]; omega)) only [r_il2 dX7_refreshDetail_20, r_al0 dX7_refreshDetail_21, r_getf dX7_refreshDetail_22 F7_29, r_alen dX7_refreshDetail_25, r_ic_ge (tgt := 42) dX7_refreshDetail_26 rfl, r_al0 dX7_refreshDetail_29, r_getf dX7_refreshDetail_30 F7_29, r_il2 dX7_refreshDetail_33, r_iconst dX7_refreshDetail_34 ki0, r_iast dX7_refreshDetail_35, r_ii2 dX7_refreshDetail_36 kn1, r_gotoB (tgt := 20) dX7_refreshDetail_39 rfl, r_iconst dX7_refreshDetail_42 ki0, r_is2 dX7_refreshDetail_43, List.cons_append, List.nil_append, Nat.reduceAdd, Option.toList, aN_ok, cat_f, cat_i, cat_n, cat_r, eq_self, g7_5, pk_un, pk_us, rd_up_eq, rd_up_ne, sI_ok, true_and, up_eq, up_ne, up_up, z0, hP'.r, rd_own hP'.r, hP'.r5, rd_own hP'.r5]
    simp (disch := omega) only [E2, nI_1, nI_add, nI_leI, nI_ltI, nI_eq, nI_clamp]
    refine ⟨fun h => absurd h (by omega), fun _ => ⟨vp_in_nI (by omega) (by omega), ?_⟩⟩
    refine ih _ _ (hP'.w5 _) (hG'.k (by omega)) (by rw [vu_ne (by decide)]; exact h1) (fun q hq => ?_) (h3.up (by omega))
    rw [vu_eq]
    unfold upd
    grind
end T1
