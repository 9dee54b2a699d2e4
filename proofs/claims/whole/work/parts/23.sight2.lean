theorem nI_gt0 {k : Nat} (h : 0 < k) (h2 : k < 2 ^ 31) : ¬ nI k ≤ 0 := by
  rw [show (0 : Int32) = nI 0 from rfl, nI_leI h2 (by omega)]; omega
theorem upd_upd {f : Nat → Int32} {k : Nat} {x y : Int32} : upd (upd f k x) k y = upd f k y := by
  funext i; unfold upd; split <;> rfl
theorem nI_ne_m1 {k : Nat} (h : k < 2 ^ 31) : nI k ≠ -1 := by
  intro e
  have h0 : (0 : Int32) ≤ nI k := by rw [show (0 : Int32) = nI 0 from rfl, nI_leI (by omega) h]; omega
  rw [e] at h0
  exact absurd h0 (by decide)
theorem i_sub1 (x y : Int32) : x - y + (-1) = x - (y + 1) := by grind
section T3
variable {X : HM} {EV : Nat → Value} {d : Nat} {hm : HM} {hs : Nat} {Q : QT} {p g sp : Nat} {u pu su : Nat → Int32} {A pA sA : Nat → Nat → Int32} {B n : Nat}
theorem stp_hi {T : Nat → Int32} {a j : Nat} (hn12 : n ≤ 12) (ha : a < 12) : ∀ i, 12 ≤ i → i < 32 → bt (stp T n a j).1 i = false := fun i h1 h2 => by
  cases j with
  | zero => show bt (sb a) i = false; rw [b_sb (by omega) h2, decide_eq_false (by omega)]
  | succ j => unfold stp; rw [b_acc _ (by omega) h2, decide_eq_false (fun z => by have := z.1; omega)]
theorem c_show {a b : Nat} (hP : RG hm p u A) (hG : PG hm g pu pA) (hpg : p + 3 ≤ g ∨ g + 10 ≤ p) (hn : pu 2 = nI n) (hn12 : n ≤ 12) (ha : a < 12) (hb : b < 12)
    (hQ : ∀ hm' A' far m (c : Nat → Nat), RG hm' p (upd u 0 (nI (m + 2))) A' → far ≤ 11 → (∀ j, j < far → bt (stp (pA 11) n a j).2 b = false) → (far = 11 ∨ bt (stp (pA 11) n a far).2 b = true) →
      A' 1 0 = nI a → (∀ j, j ≤ m → c j < 12 ∧ A' 1 (j + 1) = nI (c j)) → c 0 = b → m ≤ far - 1 → (∀ j, j < m → pA 11 (c j) &&& (stp (pA 11) n a (far - 1 - j)).1 ≠ 0 ∧ c (j + 1) = fstN (fun k => bt (pA 11 (c j) &&& (stp (pA 11) n a (far - 1 - j)).1) k = true) 12) →
      (m < far - 1 → pA 11 (c m) &&& (stp (pA 11) n a (far - 1 - m)).1 = 0) → sm p (p + 3) hm hm' → Q none hm' hs) : CC X EV (d + 2) 56 [.ref p, .ref g, .int (nI a), .int (nI b)] hm hs Q := by
  refine c_of (ls2 := [.ref p, .ref g, .int (nI a), .int (nI b), .null, .null, .null]) Y56 (Nat.le_of_ble_eq_true rfl) rfl I56 ?_
  simp only [r_al0 dX3_show_0, r_al1 dX3_show_1, r_il2 dX3_show_2, r_il3 dX3_show_3, List.cons_append, List.nil_append, Nat.reduceAdd, Option.toList, z0]
  refine r_iv4 dX3_show_4 M3_22 Y57 O57 (Nat.le_of_ble_eq_true rfl) (rcv_own hP.r) (Nat.le_refl _) (Nat.le_refl _) ?_
  refine c_countSteps hP hG hpg hn hn12 ha hb (fun hm1 A1 far hP1 h1 hf h2 h3 h4 h5 => ?_)
  simp (disch := first | omega | (simp only [List.length_cons, List.length_nil]; omega)) only [r_is4 dX3_show_7, r_al0 dX3_show_9, r_getf dX3_show_10 F3_15, r_iconst dX3_show_13 ki0, r_il2 dX3_show_14, r_iast dX3_show_15, r_al0 dX3_show_16, r_getf dX3_show_17 F3_15, r_iconst dX3_show_20 ki1, r_il3 dX3_show_21, r_iast dX3_show_22, r_al0 dX3_show_23, r_iconst dX3_show_24 ki2, r_putf dX3_show_25 F3_9, r_il4 dX3_show_28, r_iconst dX3_show_30 ki1, r_isub dX3_show_31, r_is5 dX3_show_32, List.cons_append, List.nil_append, Nat.reduceAdd, Option.toList, cat_f, cat_i, cat_n, cat_r, eq_self, fit_i, ft3_0, g3_1, p3_0, pk_un, pk_us, rd_up_eq, rd_up_ne, sI_ok, true_and, up_eq, up_ne, up_up, z0, hP1.r, rd_own hP1.r, hP1.r1, rd_own hP1.r1, nI_clamp (show 0 < 2 ^ 31 by omega), nI_clamp (show 1 < 2 ^ 31 by omega), show (0 : Int32) = nI 0 from rfl, show (1 : Int32) = nI 1 from rfl]
  refine ⟨vp_in_nI (by omega) (by omega), vp_in_nI (by omega) (by omega), ?_⟩
  suffices H : ∀ m, m ≤ far - 1 → ∀ w hm' A' (c : Nat → Nat), RG hm' p (upd u 0 (nI (m + 2))) A' → PG hm' g pu pA → A' 2 = A1 2 → A' 1 0 = nI a → (∀ j, j ≤ m → c j < 12 ∧ A' 1 (j + 1) = nI (c j)) → c 0 = b → (∀ j, j < m → pA 11 (c j) &&& (stp (pA 11) n a (far - 1 - j)).1 ≠ 0 ∧ c (j + 1) = fstN (fun k => bt (pA 11 (c j) &&& (stp (pA 11) n a (far - 1 - j)).1) k = true) 12) → sm p (p + 3) hm hm' →
      E1 X EV (d + 1) 3 0 0 none false cX3_show Q 34 [.ref p, .ref g, .int (nI a), .int (nI b), .int (nI far), .int (nI far - nI (m + 1)), w] [] 0 0 hm' hs from by
    refine H 0 (Nat.zero_le _) _ _ _ (fun _ => b) ((hP1.w1 _).o _) (((hG.s h5 (by omega)).k (by omega) |>.k (by omega))) ?_ ?_ (fun j hj => ⟨hb, ?_⟩) rfl (fun j hj => absurd hj (Nat.not_lt_zero j)) ((h5.up (by omega)).up (by omega))
    · rw [vu_ne (by decide)]
    · rw [vu_eq, pk_un (by decide), pk_us]
    · rw [show j = 0 by omega, vu_eq, pk_us]
  refine up_loop (far - 1) _ ?_ ?_
  · intro w hm' A' c hP' hG' g0 g1 g2 g3 g4 g5
    simp only [r_il5 dX3_show_34, r_if_le (tgt := 103) dX3_show_36 rfl, r_al1 dX3_show_39, r_getf dX3_show_40 F3_26, r_al0 dX3_show_43, r_getf dX3_show_44 F3_15, r_al0 dX3_show_47, r_getf dX3_show_48 F3_9, r_iconst dX3_show_51 ki1, r_isub dX3_show_52, r_iald dX3_show_53, r_iald dX3_show_54, r_al0 dX3_show_55, r_getf dX3_show_56 F3_19, r_il5 dX3_show_59, r_iald dX3_show_61, r_iand dX3_show_62, r_is6 dX3_show_63, r_il6 dX3_show_65, r_if_ne (tgt := 73) dX3_show_67 rfl, r_goto (tgt := 103) dX3_show_70 rfl, r_al0 dX3_show_73, r_getf dX3_show_74 F3_15, r_al0 dX3_show_77, r_getf dX3_show_78 F3_9, r_il6 dX3_show_81, r_vret dX3_show_103 (Nat.zero_le _) (Nat.zero_le _), List.cons_append, List.nil_append, Nat.reduceAdd, Option.toList, aI_ok, cat_f, cat_i, cat_n, cat_r, eq_self, g1_11, g3_0, g3_1, g3_2, true_and, z0]
    refine ⟨fun _ => hQ hm' A' far (far - 1) c hP' hf h3 h4 g1 g2 g3 (Nat.le_refl _) g4 (fun h => absurd h (Nat.lt_irrefl _)) g5, fun h => absurd ?_ h⟩
    rcases Nat.eq_zero_or_pos far with h | h
    · rw [h]; decide
    · rw [show far - 1 + 1 = far by omega]; grind
  · intro m hm0 ih w hm' A' c hP' hG' g0 g1 g2 g3 g4 g5
    have e0 : nI far - nI (m + 1) = nI (far - 1 - m) := by rw [show far = far - 1 - m + (m + 1) by omega, ← nI_add]; generalize nI (m + 1) = y; rw [show far - 1 - m + (m + 1) - 1 - m = far - 1 - m by omega]; generalize nI (far - 1 - m) = z; grind
    have e1 : nI (m + 2) - 1 = nI (m + 1) := nI_pred (m + 1)
    obtain ⟨hc, ec⟩ := g2 m (Nat.le_refl _)
    rw [e0]
    simp only [r_il5 dX3_show_34, r_if_leB (tgt := 103) dX3_show_36 rfl, r_al1 dX3_show_39, r_getf dX3_show_40 F3_26, r_al0 dX3_show_43, r_getf dX3_show_44 F3_15, r_al0 dX3_show_47, r_getf dX3_show_48 F3_9, r_iconst dX3_show_51 ki1, r_isub dX3_show_52, r_iald dX3_show_53, r_iald dX3_show_54, r_al0 dX3_show_55, r_getf dX3_show_56 F3_19, r_il5 dX3_show_59, r_iald dX3_show_61, r_iand dX3_show_62, r_is6 dX3_show_63, r_il6 dX3_show_65, r_if_ne (tgt := 73) dX3_show_67 rfl, r_gotoB (tgt := 103) dX3_show_70 rfl, r_al0 dX3_show_73, r_getf dX3_show_74 F3_15, r_al0 dX3_show_77, r_getf dX3_show_78 F3_9, r_il6 dX3_show_81, List.cons_append, List.nil_append, Nat.reduceAdd, Option.toList, aI_ok, cat_f, cat_i, cat_n, cat_r, eq_self, g1_11, g3_0, g3_1, g3_2, true_and, z0, hP'.r, rd_own hP'.r, hP'.r1, rd_own hP'.r1, hP'.r2, rd_own hP'.r2, hG'.r, rd_own hG'.r, hG'.r11, rd_own hG'.r11, pk_us, e1, nI_clamp (show m + 1 < 2 ^ 31 by omega), ec, nI_clamp (show c m < 2 ^ 31 by omega), nI_clamp (show far - 1 - m < 2 ^ 31 by omega), g0, h2 (far - 1 - m) (by omega)]
    simp (disch := omega) only [E2, nI_1, nI_add, nI_leI, nI_ltI, nI_eq, nI_clamp]
    refine ⟨fun h => absurd h (nI_gt0 (by omega) (by omega)), fun _ => ⟨vp_in_nI (by omega) (by omega), vp_in_nI (by omega) (by omega), vp_in_nI (by omega) (by omega), fun hz => ?_, fun hz => ?_⟩⟩
    · have hz2 : ∀ i, 12 ≤ i → i < 32 → bt (pA 11 (c m) &&& (stp (pA 11) n a (far - 1 - m)).1) i = false := fun i h1 h2 => by rw [b_and, stp_hi hn12 ha i h1 h2, Bool.and_false]
      obtain ⟨z1, -, z3⟩ := ntz_b hz2 hz
      obtain ⟨z, ez⟩ : ∃ z, z = fstN (fun k => bt (pA 11 (c m) &&& (stp (pA 11) n a (far - 1 - m)).1) k = true) 12 := ⟨_, rfl⟩
      rw [← ez] at z1 z3
      refine r_ist1 dX3_show_83 M3_31 Y262 (Nat.le_of_ble_eq_true rfl) (Nat.le_refl _) (Nat.le_refl _) ?_
      refine c_ntz ?_
      rw [z1]
      simp (disch := first | omega | (simp only [List.length_cons, List.length_nil]; omega)) only [r_iast dX3_show_86, r_al0 dX3_show_87, r_dup_i dX3_show_88, r_dup_r dX3_show_88, r_getf dX3_show_89 F3_9, r_iconst dX3_show_92 ki1, r_iadd dX3_show_93, r_putf dX3_show_94 F3_9, r_ii5 dX3_show_97 knm1, r_gotoB (tgt := 34) dX3_show_100 rfl, List.cons_append, List.nil_append, Nat.reduceAdd, Option.toList, cat_f, cat_i, cat_n, cat_r, eq_self, fit_i, ft3_0, g3_0, p3_0, pk_un, pk_us, rd_up_eq, rd_up_ne, sI_ok, true_and, up_eq, up_ne, up_up, z0, hP'.r, rd_own hP'.r, hP'.r1, rd_own hP'.r1, pk_us, nI_clamp (show m + 2 < 2 ^ 31 by omega), upd_upd]
      refine ⟨vp_in_nI (by omega) (by omega), ?_⟩
      simp (disch := omega) only [E2, nI_1, nI_add, nI_leI, nI_ltI, nI_eq, nI_clamp]
      rw [show nI (far - 1 - m) + -1 = nI far - nI (m + 1 + 1) by
        rw [← e0, ← nI_1 (m + 1)]; exact i_sub1 _ _]
      obtain ⟨c', ec'⟩ : ∃ c' : Nat → Nat, c' = fun j => if j = m + 1 then z else c j := ⟨_, rfl⟩
      have ec1 : ∀ j, j ≤ m → c' j = c j := fun j hj => by rw [ec']; exact if_neg (by omega)
      have ec2 : c' (m + 1) = z := by rw [ec']; exact if_pos rfl
      have hP2 := (hP'.w1 (upd (A' 1) (m + 2) (nI z))).o (upd u 0 (nI (m + 1 + 2)))
      refine ih _ _ _ c' hP2 ((hG'.k (by omega)).k (by omega)) ?_ ?_ ?_ ?_ ?_ ((g5.up (by omega)).up (by omega))
      · rw [vu_ne (by decide)]; exact g0
      · rw [vu_eq, pk_un (by omega)]; exact g1
      · intro j hj
        rw [vu_eq]
        rcases Nat.lt_or_ge j (m + 1) with h | h
        · rw [ec1 j (by omega), pk_un (by omega)]; exact g2 j (by omega)
        · rw [show j = m + 1 by omega, ec2, pk_us]; exact ⟨z3, rfl⟩
      · rw [ec1 0 (by omega)]; exact g3
      · intro j hj
        rcases Nat.lt_or_ge j m with h | h
        · rw [ec1 j (by omega), ec1 (j + 1) (by omega)]; exact g4 j h
        · rw [show j = m by omega, ec1 m (by omega), ec2]; exact ⟨hz, ez⟩
    · skip
      simp only [r_vret dX3_show_103 (Nat.zero_le _) (Nat.zero_le _), List.cons_append, List.nil_append, Nat.reduceAdd, Option.toList, z0]
      exact hQ hm' A' far m c hP' hf h3 h4 g1 g2 g3 (by omega) g4 (fun _ => Classical.not_not.mp hz) g5
/-! ===== Script.lettersOfWords, Sight ===== -/
def lowv (A : Nat → Nat → Int32) (F : Nat → Int32) (r f l q : Nat) : Nat → Int32
  | 0 => 0
  | w + 1 => if A 10 w = A 13 r ∧ ∀ i, i < l → bt (F (f + i)) (A 11 (6 * w + i)).toNatClampNeg = true then lowv A F r f l q w ||| (1 : Int32) <<< (A 11 (6 * w + (q - f)) &&& 31) else lowv A F r f l q w
/-- the script's words, runs and places are in order -/
def scW (u : Nat → Int32) (A : Nat → Nat → Int32) (np nw nr : Nat) : Prop := (u 1 = nI np ∧ np ≤ 8) ∧ (u 2 = nI nw ∧ nw ≤ 12) ∧ (u 3 = nI nr ∧ nr ≤ 4) ∧
  (∀ r, r < nr → ∃ f l, A 12 r = nI f ∧ A 13 r = nI l ∧ f + l ≤ 8 ∧ l ≤ 6) ∧ (∀ w, w < nw → ∃ l, l ≤ 6 ∧ A 10 w = nI l ∧ ∀ i, i < l → ∃ t, t < 32 ∧ A 11 (6 * w + i) = nI t) ∧
  (∀ q, q < np → A 9 q = -1 ∨ ∃ r f l, r < nr ∧ A 9 q = nI r ∧ A 12 r = nI f ∧ A 13 r = nI l ∧ f ≤ q ∧ q < f + l ∧ f + l ≤ 8 ∧ l ≤ 6)
theorem scW_lt {u : Nat → Int32} {A : Nat → Nat → Int32} {np nw nr w r l : Nat} (h : scW u A np nw nr) (hw : w < nw) (e : A 13 r = nI l) (hl : l ≤ 6) : A 10 w = A 13 r → ∀ i, i < l → ∃ t, t < 32 ∧ A 11 (6 * w + i) = nI t := by
  obtain ⟨-, -, -, -, h, -⟩ := h
  obtain ⟨l2, h1, h2, h3⟩ := h w hw
  intro h4 i hi
  have : l2 = l := (nI_eq (show l2 < 2 ^ 31 by omega) (show l < 2 ^ 31 by omega)).mp (h2.symm.trans (h4.trans e))
  exact h3 i (by omega)
theorem c_lettersOfWords {q r f l fa np nw nr : Nat} {F : Nat → Int32} (hP : SC hm p u A) (hW : scW u A np nw nr) (hF : hm fa = some (ia 8 F)) (hq : q < np) (hr : r < nr) (e0 : A 9 q = nI r) (e1 : A 12 r = nI f) (e2 : A 13 r = nI l) (h1 : f ≤ q) (h2 : q < f + l) (h3 : f + l ≤ 8) (h4 : l ≤ 6)
    (hQ : Q (some (.int (lowv A F r f l q nw))) hm hs) : CC X EV (d + 3) 76 [.ref p, .int (nI q), .ref fa] hm hs Q := by
  obtain ⟨⟨hu1, hnp⟩, ⟨hu2, hnw⟩, ⟨hu3, hnr⟩, hR, hWd, -⟩ := id hW
  have hir := vp_in_nI (show r < 4 by omega) (by omega)
  refine c_of (ls2 := [.ref p, .int (nI q), .ref fa, .null, .null, .null]) Y76 (Nat.le_of_ble_eq_true rfl) rfl I76 ?_
  simp only [r_al0 dX5_lettersOfWords_0, r_getf dX5_lettersOfWords_1 F5_40, r_il1 dX5_lettersOfWords_4, r_iald dX5_lettersOfWords_5, r_is3 dX5_lettersOfWords_6, r_iconst dX5_lettersOfWords_7 ki0, r_is4 dX5_lettersOfWords_8, r_iconst dX5_lettersOfWords_10 ki0, r_is5 dX5_lettersOfWords_11, List.cons_append, List.nil_append, Nat.reduceAdd, Option.toList, aI_ok, cat_f, cat_i, cat_n, cat_r, eq_self, g5_9, true_and, z0, hP.r, rd_own hP.r, hP.r9, rd_own hP.r9, nI_clamp (show q < 2 ^ 31 by omega), e0]
  refine ⟨vp_in_nI (by omega) (by omega), ?_⟩
  refine up_loop nw (fun w => E1 X EV (d + 2) 5 0 0 (some .int) false cX5_lettersOfWords Q 13 [.ref p, .int (nI q), .ref fa, .int (nI r), .int (lowv A F r f l q w), .int (nI w)] [] 0 0 hm hs) ?_ ?_ 0 (Nat.zero_le _)
  · skip
    simp only [r_il5 dX5_lettersOfWords_13, r_al0 dX5_lettersOfWords_15, r_getf dX5_lettersOfWords_16 F5_18, r_ic_ge (tgt := 60) dX5_lettersOfWords_19 rfl, r_al0 dX5_lettersOfWords_22, r_il5 dX5_lettersOfWords_23, r_il3 dX5_lettersOfWords_25, r_al2 dX5_lettersOfWords_26, r_il4 dX5_lettersOfWords_60, r_iret dX5_lettersOfWords_62 (Nat.zero_le _) (Nat.zero_le _), List.cons_append, List.nil_append, Nat.reduceAdd, Option.toList, g5_2, z0, hP.r, rd_own hP.r, hP.r, rd_own hP.r, hu2]
    exact ⟨fun _ => hQ, fun h => absurd (Int32.le_refl _) h⟩
  · intro w hw ih
    rw [lowv] at ih
    simp only [r_il5 dX5_lettersOfWords_13, r_al0 dX5_lettersOfWords_15, r_getf dX5_lettersOfWords_16 F5_18, r_ic_ge (tgt := 60) dX5_lettersOfWords_19 rfl, r_al0 dX5_lettersOfWords_22, r_il5 dX5_lettersOfWords_23, r_il3 dX5_lettersOfWords_25, r_al2 dX5_lettersOfWords_26, r_il4 dX5_lettersOfWords_60, r_iret dX5_lettersOfWords_62 (Nat.zero_le _) (Nat.zero_le _), List.cons_append, List.nil_append, Nat.reduceAdd, Option.toList, g5_2, z0, hP.r, rd_own hP.r, hP.r, rd_own hP.r, hu2]
    simp (disch := omega) only [E2, nI_1, nI_add, nI_leI, nI_ltI, nI_eq, nI_clamp]
    refine ⟨fun h => absurd h (by omega), fun _ => ?_⟩
    refine r_iv4 dX5_lettersOfWords_27 M5_66 Y75 O75 (Nat.le_of_ble_eq_true rfl) (rcv_own hP.r) (Nat.le_refl _) (Nat.le_refl _) ?_
    refine c_wordFits hP hF (by omega) (by omega) e1 e2 h3 h4 (scW_lt hW hw e2 h4) (c := A 10 w = A 13 r ∧ ∀ i, i < l → bt (F (f + i)) (A 11 (6 * w + i)).toNatClampNeg = true) Iff.rfl ?_
    have e9 : nI q - nI f = nI (q - f) := by rw [show q = q - f + f by omega, ← nI_add, show q - f + f - f = q - f by omega]; generalize nI (q - f) = y; generalize nI f = z; grind
    simp only [r_if_eq (tgt := 54) dX5_lettersOfWords_30 rfl, r_il4 dX5_lettersOfWords_33, r_iconst dX5_lettersOfWords_35 ki1, r_al0 dX5_lettersOfWords_36, r_il5 dX5_lettersOfWords_37, r_il1 dX5_lettersOfWords_39, r_al0 dX5_lettersOfWords_40, r_getf dX5_lettersOfWords_41 F5_49, r_il3 dX5_lettersOfWords_44, r_iald dX5_lettersOfWords_45, r_isub dX5_lettersOfWords_46, r_ii5 dX5_lettersOfWords_54 kn1, r_gotoB (tgt := 13) dX5_lettersOfWords_57 rfl, List.cons_append, List.nil_append, Nat.reduceAdd, Option.toList, aI_ok, cat_f, cat_i, cat_n, cat_r, eq_self, g5_12, true_and, z0, hP.r, rd_own hP.r, hP.r12, rd_own hP.r12, nI_clamp (show r < 2 ^ 31 by omega), e1, e9]
    refine ⟨fun h => ?_, fun h => ⟨hir, ?_⟩⟩
    · simp (disch := omega) only [E2, nI_1, nI_add, nI_leI, nI_ltI, nI_eq, nI_clamp]
      rw [if_neg h] at ih
      exact ih
    · skip
      refine r_iv3 dX5_lettersOfWords_47 M5_62 Y73 O73 (Nat.le_of_ble_eq_true rfl) (rcv_own hP.r) (Nat.le_refl _) (Nat.le_refl _) ?_
      refine c_letterOf hP (by omega) (by omega) ?_
      simp only [r_ishl dX5_lettersOfWords_50, r_ior dX5_lettersOfWords_51, r_is4 dX5_lettersOfWords_52, r_ii5 dX5_lettersOfWords_54 kn1, r_gotoB (tgt := 13) dX5_lettersOfWords_57 rfl, List.cons_append, List.nil_append, Nat.reduceAdd, Option.toList, cat_f, cat_i, cat_n, cat_r, eq_self, true_and, z0]
      simp (disch := omega) only [E2, nI_1, nI_add, nI_leI, nI_ltI, nI_eq, nI_clamp]
      rw [if_pos (Classical.not_not.mp h)] at ih
      exact ih
def pfv (F : Nat → Int32) (k : Nat) : Nat → Nat
  | 0 => 0
  | q + 1 => if bt (F q) k = true then pfv F k q + 1 else pfv F k q
theorem pfv_le (F : Nat → Int32) (k q : Nat) : pfv F k q ≤ q := by
  induction q with
  | zero => exact Nat.le_refl _
  | succ s ih => unfold pfv; split <;> omega
theorem c_placesThatFit {k np : Nat} (hP : SI hm p u A) (hk : k < 32) (hnp : np ≤ 8) (hQ : Q (some (.int (nI (pfv (A 2) k np)))) hm hs) : CC X EV (d + 1) 83 [.ref p, .int (nI k), .int (nI np)] hm hs Q := by
  refine c_of (ls2 := [.ref p, .int (nI k), .int (nI np), .null, .null]) Y83 (Nat.le_of_ble_eq_true rfl) rfl I83 ?_
  simp only [r_iconst dX6_placesThatFit_0 ki0, r_is3 dX6_placesThatFit_1, r_iconst dX6_placesThatFit_2 ki0, r_is4 dX6_placesThatFit_3, List.cons_append, List.nil_append, Nat.reduceAdd, Option.toList, cat_f, cat_i, cat_n, cat_r, eq_self, true_and, z0]
  refine up_loop np (fun q => E1 X EV d 6 0 0 (some .int) false cX6_placesThatFit Q 5 [.ref p, .int (nI k), .int (nI np), .int (nI (pfv (A 2) k q)), .int (nI q)] [] 0 0 hm hs) ?_ ?_ 0 (Nat.zero_le _)
  · skip
    simp only [r_il4 dX6_placesThatFit_5, r_il2 dX6_placesThatFit_7, r_ic_ge (tgt := 31) dX6_placesThatFit_8 rfl, r_il3 dX6_placesThatFit_11, r_al0 dX6_placesThatFit_12, r_getf dX6_placesThatFit_13 F6_19, r_il4 dX6_placesThatFit_16, r_iald dX6_placesThatFit_18, r_il1 dX6_placesThatFit_19, r_ishr dX6_placesThatFit_20, r_iconst dX6_placesThatFit_21 ki1, r_iand dX6_placesThatFit_22, r_iadd dX6_placesThatFit_23, r_is3 dX6_placesThatFit_24, r_ii4 dX6_placesThatFit_25 kn1, r_gotoB (tgt := 5) dX6_placesThatFit_28 rfl, r_il3 dX6_placesThatFit_31, r_iret dX6_placesThatFit_32 (Nat.zero_le _) (Nat.zero_le _), List.cons_append, List.nil_append, Nat.reduceAdd, Option.toList, aI_ok, cat_f, cat_i, cat_n, cat_r, eq_self, g6_2, true_and, z0]
    exact ⟨fun _ => hQ, fun h => absurd (Int32.le_refl _) h⟩
  · intro q hq ih
    have hle := pfv_le (A 2) k q
    simp only [r_il4 dX6_placesThatFit_5, r_il2 dX6_placesThatFit_7, r_ic_ge (tgt := 31) dX6_placesThatFit_8 rfl, r_il3 dX6_placesThatFit_11, r_al0 dX6_placesThatFit_12, r_getf dX6_placesThatFit_13 F6_19, r_il4 dX6_placesThatFit_16, r_iald dX6_placesThatFit_18, r_il1 dX6_placesThatFit_19, r_ishr dX6_placesThatFit_20, r_iconst dX6_placesThatFit_21 ki1, r_iand dX6_placesThatFit_22, r_iadd dX6_placesThatFit_23, r_is3 dX6_placesThatFit_24, r_ii4 dX6_placesThatFit_25 kn1, r_gotoB (tgt := 5) dX6_placesThatFit_28 rfl, r_il3 dX6_placesThatFit_31, r_iret dX6_placesThatFit_32 (Nat.zero_le _) (Nat.zero_le _), List.cons_append, List.nil_append, Nat.reduceAdd, Option.toList, aI_ok, cat_f, cat_i, cat_n, cat_r, eq_self, g6_2, true_and, z0, hP.r, rd_own hP.r, hP.r2, rd_own hP.r2, tst hk]
    simp (disch := omega) only [E2, nI_1, nI_add, nI_leI, nI_ltI, nI_eq, nI_clamp]
    refine ⟨fun h => absurd h (by omega), fun _ => ⟨vp_in_nI (by omega) (by omega), ?_⟩⟩
    have e : nI (pfv (A 2) k q) + (if bt (A 2 q) k = true then 1 else 0) = nI (pfv (A 2) k (q + 1)) := by
      rw [pfv]
      split
      · rw [nI_1]
      · generalize nI (pfv (A 2) k q) = y; grind
    rw [e]
    exact ih
/-- what is seen at a place -/
def lkP (pu : Nat → Int32) (pA : Nat → Nat → Int32) (n : Nat) (x y ml sc : Int32) : Int32 := lkv (fun i => seenv (pA 12) n (sAt pu pA (x + nI (i % 3)) (y + nI (i / 3)) &&& (sc ^^^ (-1))) ml) 9
theorem c_siRefresh {np nw nr nl w h : Nat} (hP : SI hm p u A) (hG : PG hm g pu pA) (hS : SC hm sp su sA) (hpg : p + 4 ≤ g ∨ g + 10 ≤ p) (hps : p + 4 ≤ sp ∨ sp + 11 ≤ p) (hw0 : pu 0 = nI w) (hh0 : pu 1 = nI h) (hw24 : w ≤ 24) (hh12 : h ≤ 12) (hn : pu 2 = nI n) (hn12 : n ≤ 12) (hl : su 0 = nI nl) (hl10 : nl ≤ 10) (hW : scW su sA np nw nr)
    (h0 : u 0 = 0 → Q none hm hs) (hQ : ¬ u 0 = 0 → ∀ hm' A', SI hm' p (upd u 0 0) A' → (∀ q, q < np → A' 1 q = lkP pu pA n (sA 7 q) (sA 8 q) (mlow (pu 4) (pA 12) n) 0) → (∀ q, q < np → A' 2 q = fitv (sA 5) (A' 1 q) nl) →
      (∀ q, q < np → (sA 9 q = -1 → A' 3 q = A' 2 q) ∧ (∀ r f l, r < nr → sA 9 q = nI r → sA 12 r = nI f → sA 13 r = nI l → f ≤ q → q < f + l → f + l ≤ 8 → l ≤ 6 → A' 3 q = lowv sA (A' 2) r f l q nw)) → sm p (p + 4) hm hm' → Q none hm' hs) : CC X EV (d + 4) 82 [.ref p, .ref g, .ref sp] hm hs Q := by
  obtain ⟨⟨hu1, hnp⟩, ⟨hu2, hnw⟩, ⟨hu3, hnr⟩, hR, hWd, hPl⟩ := id hW
  refine c_of (ls2 := [.ref p, .ref g, .ref sp, .null, .null, .null]) Y82 (Nat.le_of_ble_eq_true rfl) rfl I82 ?_
  simp (disch := first | omega | (simp only [List.length_cons, List.length_nil]; omega)) only [r_al0 dX6_refresh_0, r_getf dX6_refresh_1 F6_9, r_if_ne (tgt := 8) dX6_refresh_4 rfl, r_vret dX6_refresh_7 (Nat.zero_le _) (Nat.zero_le _), r_al0 dX6_refresh_8, r_iconst dX6_refresh_9 ki0, r_putf dX6_refresh_10 F6_9, r_al1 dX6_refresh_13, r_al1 dX6_refresh_14, r_getf dX6_refresh_15 F6_25, List.cons_append, List.nil_append, Nat.reduceAdd, Option.toList, fit_z0, fit_z1, ft6_0, g1_4, g6_0, p6_0, pk_un, pk_us, rd_up_eq, rd_up_ne, true_and, up_eq, up_ne, up_up, z0, hP.r, rd_own hP.r, hP.r, rd_own hP.r, hG.r, rd_own hG.r, hG.r, rd_own hG.r]
  refine ⟨fun h => ?_, fun h => h0 (Classical.not_not.mp h)⟩
  have hP1 := hP.o (upd u 0 0)
  have hG1 : PG (im_up hm p (.inr (6, fs_SI p (upd u 0 0)))) g pu pA := hG.k (by omega)
  have hS1 : SC (im_up hm p (.inr (6, fs_SI p (upd u 0 0)))) sp su sA := hS.k (by omega)
  refine r_iv2 dX6_refresh_18 M6_31 Y26 O26 (Nat.le_of_ble_eq_true rfl) (rcv_own hG1.r) (Nat.le_refl _) (Nat.le_refl _) ?_
  refine c_mustBeLower hG1 hn hn12 ?_
  simp only [r_is3 dX6_refresh_21, r_iconst dX6_refresh_22 ki0, r_is4 dX6_refresh_23, List.cons_append, List.nil_append, Nat.reduceAdd, Option.toList, cat_f, cat_i, cat_n, cat_r, eq_self, true_and, z0]
  suffices H : ∀ k, k ≤ np → ∀ w hm' A', SI hm' p (upd u 0 0) A' → PG hm' g pu pA → SC hm' sp su sA → (∀ q, q < k → A' 1 q = lkP pu pA n (sA 7 q) (sA 8 q) (mlow (pu 4) (pA 12) n) 0) → (∀ q, q < k → A' 2 q = fitv (sA 5) (A' 1 q) nl) → sm p (p + 4) hm hm' → E1 X EV (d + 3) 6 0 0 none false cX6_refresh Q 25 [.ref p, .ref g, .ref sp, .int (mlow (pu 4) (pA 12) n), .int (nI k), w] [] 0 0 hm' hs from
    H 0 (Nat.zero_le _) _ _ _ hP1 hG1 hS1 (fun q hq => absurd hq (Nat.not_lt_zero q)) (fun q hq => absurd hq (Nat.not_lt_zero q)) (sm.rf.up (by omega))
  refine up_loop np _ ?_ ?_
  · intro w hm' A' hP' hG' hS' h1 h2 h3
    simp only [r_il4 dX6_refresh_25, r_al2 dX6_refresh_27, r_getf dX6_refresh_28 F6_35, r_ic_ge (tgt := 85) dX6_refresh_31 rfl, r_al0 dX6_refresh_34, r_getf dX6_refresh_35 F6_15, r_il4 dX6_refresh_38, r_al1 dX6_refresh_40, r_al2 dX6_refresh_41, r_getf dX6_refresh_42 F6_40, r_il4 dX6_refresh_45, r_iald dX6_refresh_47, r_al2 dX6_refresh_48, r_getf dX6_refresh_49 F6_43, r_il4 dX6_refresh_52, r_iald dX6_refresh_54, r_il3 dX6_refresh_55, r_iconst dX6_refresh_56 ki0, r_iconst dX6_refresh_85 ki0, r_is4 dX6_refresh_86, List.cons_append, List.nil_append, Nat.reduceAdd, Option.toList, aI_ok, cat_f, cat_i, cat_n, cat_r, eq_self, g5_1, g5_7, g5_8, g6_1, true_and, z0, hS'.r, rd_own hS'.r, hS'.r, rd_own hS'.r, hu1]
    refine ⟨fun _ => ?_, fun h => absurd (Int32.le_refl _) h⟩
    suffices H : ∀ k, k ≤ np → ∀ w hm2 A2, SI hm2 p (upd u 0 0) A2 → SC hm2 sp su sA → (∀ s, s ≠ 3 → A2 s = A' s) → (∀ q, q < k → (sA 9 q = -1 → A2 3 q = A' 2 q) ∧ (∀ r f l, r < nr → sA 9 q = nI r → sA 12 r = nI f → sA 13 r = nI l → f ≤ q → q < f + l → f + l ≤ 8 → l ≤ 6 → A2 3 q = lowv sA (A' 2) r f l q nw)) → sm p (p + 4) hm hm2 → E1 X EV (d + 3) 6 0 0 none false cX6_refresh Q 88 [.ref p, .ref g, .ref sp, .int (mlow (pu 4) (pA 12) n), .int (nI k), w] [] 0 0 hm2 hs from
      H 0 (Nat.zero_le _) _ _ _ hP' hS' (fun _ _ => rfl) (fun q hq => absurd hq (Nat.not_lt_zero q)) h3
    refine up_loop np _ ?_ ?_
    · intro w hm2 A2 hP2 hS2 g1 g2 g3
      simp (disch := first | omega | (simp only [List.length_cons, List.length_nil]; omega)) only [r_il4 dX6_refresh_88, r_al2 dX6_refresh_90, r_getf dX6_refresh_91 F6_35, r_ic_ge (tgt := 153) dX6_refresh_94 rfl, r_al2 dX6_refresh_97, r_getf dX6_refresh_98 F6_53, r_il4 dX6_refresh_101, r_iald dX6_refresh_103, r_iconst dX6_refresh_104 kim1, r_ic_eq (tgt := 112) dX6_refresh_105 rfl, r_iconst dX6_refresh_108 ki1, r_goto (tgt := 113) dX6_refresh_109 rfl, r_iconst dX6_refresh_112 ki0, r_is5 dX6_refresh_113, r_al0 dX6_refresh_115, r_getf dX6_refresh_116 F6_22, r_il4 dX6_refresh_119, r_il5 dX6_refresh_121, r_if_eq (tgt := 139) dX6_refresh_123 rfl, r_al2 dX6_refresh_126, r_il4 dX6_refresh_127, r_al0 dX6_refresh_129, r_getf dX6_refresh_130 F6_19, r_al0 dX6_refresh_139, r_getf dX6_refresh_140 F6_19, r_il4 dX6_refresh_143, r_iald dX6_refresh_145, r_iast dX6_refresh_146, r_ii4 dX6_refresh_147 kn1, r_gotoB (tgt := 88) dX6_refresh_150 rfl, r_vret dX6_refresh_153 (Nat.zero_le _) (Nat.zero_le _), List.cons_append, List.nil_append, Nat.reduceAdd, Option.toList, aI_ok, cat_f, cat_i, cat_n, cat_r, eq_self, g5_1, g5_9, g6_2, g6_3, pk_un, pk_us, rd_up_eq, rd_up_ne, sI_ok, true_and, up_eq, up_ne, up_up, z0, hS2.r, rd_own hS2.r, hS2.r, rd_own hS2.r, hu1]
      refine ⟨fun _ => hQ h hm2 A2 hP2 ?_ ?_ ?_ g3, fun h => absurd (Int32.le_refl _) h⟩
      · rw [g1 1 (by decide)]; exact h1
      · rw [g1 1 (by decide), g1 2 (by decide)]; exact h2
      · rw [g1 2 (by decide)]; exact g2
    · intro k hk ih w hm2 A2 hP2 hS2 g1 g2 g3
      simp (disch := first | omega | (simp only [List.length_cons, List.length_nil]; omega)) only [r_il4 dX6_refresh_88, r_al2 dX6_refresh_90, r_getf dX6_refresh_91 F6_35, r_ic_ge (tgt := 153) dX6_refresh_94 rfl, r_al2 dX6_refresh_97, r_getf dX6_refresh_98 F6_53, r_il4 dX6_refresh_101, r_iald dX6_refresh_103, r_iconst dX6_refresh_104 kim1, r_ic_eq (tgt := 112) dX6_refresh_105 rfl, r_iconst dX6_refresh_108 ki1, r_goto (tgt := 113) dX6_refresh_109 rfl, r_iconst dX6_refresh_112 ki0, r_is5 dX6_refresh_113, r_al0 dX6_refresh_115, r_getf dX6_refresh_116 F6_22, r_il4 dX6_refresh_119, r_il5 dX6_refresh_121, r_if_eq (tgt := 139) dX6_refresh_123 rfl, r_al2 dX6_refresh_126, r_il4 dX6_refresh_127, r_al0 dX6_refresh_129, r_getf dX6_refresh_130 F6_19, r_al0 dX6_refresh_139, r_getf dX6_refresh_140 F6_19, r_il4 dX6_refresh_143, r_iald dX6_refresh_145, r_iast dX6_refresh_146, r_ii4 dX6_refresh_147 kn1, r_gotoB (tgt := 88) dX6_refresh_150 rfl, r_vret dX6_refresh_153 (Nat.zero_le _) (Nat.zero_le _), List.cons_append, List.nil_append, Nat.reduceAdd, Option.toList, aI_ok, cat_f, cat_i, cat_n, cat_r, eq_self, g5_1, g5_9, g6_2, g6_3, pk_un, pk_us, rd_up_eq, rd_up_ne, sI_ok, true_and, up_eq, up_ne, up_up, z0, hS2.r, rd_own hS2.r, hS2.r9, rd_own hS2.r9, hP2.r, rd_own hP2.r, hP2.r2, rd_own hP2.r2, hP2.r3, rd_own hP2.r3, hu1]
      simp (disch := omega) only [E2, nI_1, nI_add, nI_leI, nI_ltI, nI_eq, nI_clamp]
      have hik := vp_in_nI (show k < 8 by omega) (by omega)
      refine ⟨fun h => absurd h (by omega), fun _ => ⟨hik, fun h9 => ⟨fun _ => ⟨hik, hik, ?_⟩, fun h => absurd trivial h⟩, fun h9 => ⟨fun h => absurd h (by decide), fun _ => ?_⟩⟩⟩
      · refine ih _ _ _ (hP2.w3 _) (hS2.k (by omega)) (fun s a => by rw [vu_ne a]; exact g1 s a) (fun q hq => ?_) (g3.up (by omega))
        rw [vu_eq]
        rcases Nat.lt_or_ge q k with h | h
        · rw [pk_un (by omega)]; exact g2 q h
        · rw [show q = k by omega, pk_us]
          refine ⟨fun _ => by rw [g1 2 (by decide)], fun r f l k0 k1 => ?_⟩
          rw [h9] at k1
          exact absurd k1.symm (nI_ne_m1 (by omega))
      · rcases hPl k hk with h | ⟨r, f, l, k0, k1, k2, k3, k4, k5, k6, k7⟩
        · exact absurd h h9
        refine r_iv3 dX6_refresh_133 M6_56 Y76 O76 (Nat.le_of_ble_eq_true rfl) (rcv_own hS2.r) (Nat.le_refl _) (Nat.le_refl _) ?_
        refine c_lettersOfWords hS2 hW hP2.r2 hk k0 k1 k2 k3 k4 k5 k6 k7 ?_
        simp (disch := first | omega | (simp only [List.length_cons, List.length_nil]; omega)) only [r_goto (tgt := 146) dX6_refresh_136 rfl, r_iast dX6_refresh_146, r_ii4 dX6_refresh_147 kn1, r_gotoB (tgt := 88) dX6_refresh_150 rfl, List.cons_append, List.nil_append, Nat.reduceAdd, Option.toList, cat_f, cat_i, cat_n, cat_r, eq_self, pk_un, pk_us, rd_up_eq, rd_up_ne, sI_ok, true_and, up_eq, up_ne, up_up, z0, hP2.r, rd_own hP2.r, hP2.r3, rd_own hP2.r3, nI_clamp (show k < 2 ^ 31 by omega)]
        refine ⟨hik, ?_⟩
        simp (disch := omega) only [E2, nI_1, nI_add, nI_leI, nI_ltI, nI_eq, nI_clamp]
        refine ih _ _ _ (hP2.w3 _) (hS2.k (by omega)) (fun s a => by rw [vu_ne a]; exact g1 s a) (fun q hq => ?_) (g3.up (by omega))
        rw [vu_eq]
        rcases Nat.lt_or_ge q k with h | h
        · rw [pk_un (by omega)]; exact g2 q h
        · rw [show q = k by omega, pk_us]
          refine ⟨fun h => absurd h h9, fun r' f' l' m0 m1 m2 m3 _ _ _ m7 => ?_⟩
          have er : r' = r := (nI_eq (show r' < 2 ^ 31 by omega) (show r < 2 ^ 31 by omega)).mp (m1.symm.trans k1)
          subst er
          have ef : f' = f := (nI_eq (show f' < 2 ^ 31 by omega) (show f < 2 ^ 31 by omega)).mp (m2.symm.trans k2)
          have el : l' = l := (nI_eq (show l' < 2 ^ 31 by omega) (show l < 2 ^ 31 by omega)).mp (m3.symm.trans k3)
          rw [ef, el, g1 2 (by decide)]
  · intro k hk ih w hm' A' hP' hG' hS' h1 h2 h3
    simp only [r_il4 dX6_refresh_25, r_al2 dX6_refresh_27, r_getf dX6_refresh_28 F6_35, r_ic_ge (tgt := 85) dX6_refresh_31 rfl, r_al0 dX6_refresh_34, r_getf dX6_refresh_35 F6_15, r_il4 dX6_refresh_38, r_al1 dX6_refresh_40, r_al2 dX6_refresh_41, r_getf dX6_refresh_42 F6_40, r_il4 dX6_refresh_45, r_iald dX6_refresh_47, r_al2 dX6_refresh_48, r_getf dX6_refresh_49 F6_43, r_il4 dX6_refresh_52, r_iald dX6_refresh_54, r_il3 dX6_refresh_55, r_iconst dX6_refresh_56 ki0, r_iconst dX6_refresh_85 ki0, r_is4 dX6_refresh_86, List.cons_append, List.nil_append, Nat.reduceAdd, Option.toList, aI_ok, cat_f, cat_i, cat_n, cat_r, eq_self, g5_1, g5_7, g5_8, g6_1, true_and, z0, hP'.r, rd_own hP'.r, hP'.r1, rd_own hP'.r1, hG'.r, rd_own hG'.r, hG'.r, rd_own hG'.r, hS'.r, rd_own hS'.r, hS'.r7, rd_own hS'.r7, hS'.r8, rd_own hS'.r8, hu1]
    simp (disch := omega) only [E2, nI_1, nI_add, nI_leI, nI_ltI, nI_eq, nI_clamp]
    have hik := vp_in_nI (show k < 8 by omega) (by omega)
    refine ⟨fun h => absurd h (by omega), fun _ => ⟨hik, hik, ?_⟩⟩
    refine r_iv5 dX6_refresh_57 M6_46 Y34 O34 (Nat.le_of_ble_eq_true rfl) (rcv_own hG'.r) (Nat.le_refl _) (Nat.le_refl _) ?_
    refine c_lookAt hG' hw0 hh0 hw24 hh12 hn hn12 ?_
    have hP2 := hP'.w1 (upd (A' 1) k (lkP pu pA n (sA 7 k) (sA 8 k) (mlow (pu 4) (pA 12) n) 0))
    have hS2 : SC (im_up hm' (p + 1) (ia 8 (upd (A' 1) k (lkP pu pA n (sA 7 k) (sA 8 k) (mlow (pu 4) (pA 12) n) 0)))) sp su sA := hS'.k (by omega)
    simp (disch := first | omega | (simp only [List.length_cons, List.length_nil]; omega)) only [r_iast dX6_refresh_60, r_al0 dX6_refresh_61, r_getf dX6_refresh_62 F6_19, r_il4 dX6_refresh_65, r_al2 dX6_refresh_67, r_al0 dX6_refresh_68, r_getf dX6_refresh_69 F6_15, r_il4 dX6_refresh_72, r_iald dX6_refresh_74, List.cons_append, List.nil_append, Nat.reduceAdd, Option.toList, aI_ok, g6_1, g6_2, pk_un, pk_us, rd_up_eq, rd_up_ne, sI_ok, up_eq, up_ne, up_up, z0, hP'.r, rd_own hP'.r, hP'.r1, rd_own hP'.r1, hP'.r2, rd_own hP'.r2, nI_clamp (show k < 2 ^ 31 by omega)]
    refine ⟨hik, hik, ?_⟩
    refine r_iv2 dX6_refresh_75 M6_50 Y74 O74 (Nat.le_of_ble_eq_true rfl) (rcv_own hS2.r) (Nat.le_refl _) (Nat.le_refl _) ?_
    refine c_lettersThatFit hS2 hl hl10 ?_
    simp (disch := first | omega | (simp only [List.length_cons, List.length_nil]; omega)) only [r_iast dX6_refresh_78, r_ii4 dX6_refresh_79 kn1, r_gotoB (tgt := 25) dX6_refresh_82 rfl, List.cons_append, List.nil_append, Nat.reduceAdd, Option.toList, cat_f, cat_i, cat_n, cat_r, eq_self, pk_un, pk_us, rd_up_eq, rd_up_ne, sI_ok, true_and, up_eq, up_ne, up_up, z0, hP'.r, rd_own hP'.r, hP'.r1, rd_own hP'.r1, hP'.r2, rd_own hP'.r2, nI_clamp (show k < 2 ^ 31 by omega)]
    refine ⟨hik, ?_⟩
    simp (disch := omega) only [E2, nI_1, nI_add, nI_leI, nI_ltI, nI_eq, nI_clamp]
    refine ih _ _ _ (hP2.w2 _) ((hG'.k (by omega)).k (by omega)) (hS2.k (by omega)) (fun q hq => ?_) (fun q hq => ?_) ((h3.up (by omega)).up (by omega))
    · rw [vu_ne (by decide), vu_eq]
      rcases Nat.lt_or_ge q k with h | h
      · rw [pk_un (by omega)]; exact h1 q h
      · rw [show q = k by omega, pk_us]
    · rw [vu_eq, vu_ne (by decide), vu_eq]
      rcases Nat.lt_or_ge q k with h | h
      · rw [pk_un (by omega), pk_un (by omega)]; exact h2 q h
      · rw [show q = k by omega, pk_us, pk_us]; rfl
end T3
