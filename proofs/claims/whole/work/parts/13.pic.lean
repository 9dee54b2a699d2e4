/-! ===== pictures of the objects; loops; frames ===== -/
theorem up_loop (n : Nat) (P : Nat → Prop) (hend : P n) (hstep : ∀ k, k < n → P (k + 1) → P k) : ∀ k, k ≤ n → P k := by
  intro k hk
  obtain ⟨j, rfl⟩ : ∃ j, n = k + j := ⟨n - k, by omega⟩
  clear hk
  induction j generalizing k with
  | zero => exact hend
  | succ j ih => exact hstep k (by omega) (ih (k + 1) (by rw [show k + 1 + j = k + (j + 1) by omega]; exact hend) (fun i hi => hstep i (by omega)))
abbrev ia (n : Nat) (f : Nat → Int32) : Option HC := some (.inl (.int, n, .inl f))
/-- a page at p: six numbers, nine rows behind it -/
def PG (hm : HM) (p : Nat) (s : Nat → Int32) (A : Nat → Nat → Int32) : Prop :=
  hm p = some (.inr (1, [.int (s 0), .int (s 1), .int (s 2), .int (s 3), .int (s 4), .int (s 5), .ref (p + 1), .ref (p + 2), .ref (p + 3), .ref (p + 4), .ref (p + 5), .ref (p + 6), .ref (p + 7), .ref (p + 8), .ref (p + 9)])) ∧
  hm (p + 1) = ia 12 (A 0) ∧ hm (p + 2) = ia 12 (A 1) ∧ hm (p + 3) = ia 12 (A 2) ∧ hm (p + 4) = ia 12 (A 3) ∧ hm (p + 5) = ia 12 (A 4) ∧ hm (p + 6) = ia 12 (A 5) ∧ hm (p + 7) = ia 12 (A 6) ∧ hm (p + 8) = ia 12 (A 7) ∧ hm (p + 9) = ia 288 (A 8)
section P1
variable {X : HM} {EV : Nat → Value} {d : Nat} {hm : HM} {hs : Nat} {Q : QT} {p : Nat} {s : Nat → Int32} {A : Nat → Nat → Int32}
theorem c_has {k : Int32} (hP : PG hm p s A) (h1 : 0 ≤ k ∧ k < s 2 → Q (some (.int 1)) hm hs) (h0 : ¬ (0 ≤ k ∧ k < s 2) → Q (some (.int 0)) hm hs) : CC X EV (d + 1) 6 [.ref p, .int k] hm hs Q := by
  refine c_of (ls2 := [.ref p, .int k]) Y6 (Nat.le_of_ble_eq_true rfl) rfl I6 ?_
  simp only [r_il1 dX1_has_0, r_if_lt (tgt := 16) dX1_has_1 rfl, r_il1 dX1_has_4, r_al0 dX1_has_5, r_getf dX1_has_6 F1_18, r_ic_ge (tgt := 16) dX1_has_9 rfl, r_iconst dX1_has_12 ki1, r_goto (tgt := 17) dX1_has_13 rfl, r_iconst dX1_has_16 ki0, r_zret0 dX1_has_17 (Nat.zero_le _) (Nat.zero_le _), r_zret1 dX1_has_17 (Nat.zero_le _) (Nat.zero_le _), Nat.reduceAdd, g1_2, rd_own hP.1]
  trace_state
  sorry
def mlow (t : Int32) (bl : Nat → Int32) : Nat → Int32
  | 0 => t
  | k + 1 => if (t >>> (nI k &&& 31)) &&& 1 = 0 then mlow t bl k else mlow t bl k ||| bl k
theorem c_mustBeLower {t : Int32} {n : Nat} (hP : PG hm p s A) (hn : s 2 = nI n) (hn12 : n ≤ 12) (hQ : Q (some (.int (mlow t (A 6) n))) hm hs) : CC X EV (d + 1) 26 [.ref p, .int t] hm hs Q := by
  refine c_of (ls2 := [.ref p, .int t, .null, .null]) Y26 (Nat.le_of_ble_eq_true rfl) rfl I26 ?_
  simp only [r_il1 dX1_mustBeLower_0, r_is2 dX1_mustBeLower_1, r_iconst dX1_mustBeLower_2 ki0, r_is3 dX1_mustBeLower_3, Nat.reduceAdd, cat_f, cat_i, cat_n, cat_r, eq_self, true_and]
  refine up_loop n (fun k => E1 X EV d 1 0 0 (some .int) false cX1_mustBeLower Q 4 [.ref p, .int t, .int (mlow t (A 6) k), .int (nI k)] [] 0 0 hm hs) ?_ ?_ 0 (Nat.zero_le n)
  · skip
    simp only [r_il3 dX1_mustBeLower_4, r_al0 dX1_mustBeLower_5, r_getf dX1_mustBeLower_6 F1_18, r_ic_ge (tgt := 35) dX1_mustBeLower_9 rfl, r_il1 dX1_mustBeLower_12, r_il3 dX1_mustBeLower_13, r_ishr dX1_mustBeLower_14, r_iconst dX1_mustBeLower_15 ki1, r_iand dX1_mustBeLower_16, r_if_eq (tgt := 29) dX1_mustBeLower_17 rfl, r_il2 dX1_mustBeLower_20, r_al0 dX1_mustBeLower_21, r_getf dX1_mustBeLower_22 F1_49, r_il3 dX1_mustBeLower_25, r_iald dX1_mustBeLower_26, r_ior dX1_mustBeLower_27, r_is2 dX1_mustBeLower_28, r_ii3 dX1_mustBeLower_29 kn1, r_gotoB (tgt := 4) dX1_mustBeLower_32 rfl, r_il2 dX1_mustBeLower_35, r_iret dX1_mustBeLower_36 (Nat.zero_le _) (Nat.zero_le _), Nat.reduceAdd, aI_ok, cat_f, cat_i, cat_n, cat_r, eq_self, g1_12, g1_2, true_and, rd_own hP.1, hn]
    trace_state
    sorry
  · intro k hk ih
    simp only [r_il3 dX1_mustBeLower_4, r_al0 dX1_mustBeLower_5, r_getf dX1_mustBeLower_6 F1_18, r_ic_ge (tgt := 35) dX1_mustBeLower_9 rfl, r_il1 dX1_mustBeLower_12, r_il3 dX1_mustBeLower_13, r_ishr dX1_mustBeLower_14, r_iconst dX1_mustBeLower_15 ki1, r_iand dX1_mustBeLower_16, r_if_eq (tgt := 29) dX1_mustBeLower_17 rfl, r_il2 dX1_mustBeLower_20, r_al0 dX1_mustBeLower_21, r_getf dX1_mustBeLower_22 F1_49, r_il3 dX1_mustBeLower_25, r_iald dX1_mustBeLower_26, r_ior dX1_mustBeLower_27, r_is2 dX1_mustBeLower_28, r_ii3 dX1_mustBeLower_29 kn1, r_gotoB (tgt := 4) dX1_mustBeLower_32 rfl, r_il2 dX1_mustBeLower_35, r_iret dX1_mustBeLower_36 (Nat.zero_le _) (Nat.zero_le _), Nat.reduceAdd, aI_ok, cat_f, cat_i, cat_n, cat_r, eq_self, g1_12, g1_2, true_and, rd_own hP.1, rd_own hP.2.2.2.2.2.2.2.1, hn]
    trace_state
    sorry
end P1
